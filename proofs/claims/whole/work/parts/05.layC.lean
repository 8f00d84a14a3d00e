abbrev nAC : Nat := 25
def lenC : Nat → Nat
  | 0 => 600
  | 1 => 602
  | 2 => 602
  | 3 => 602
  | 4 => 602
  | 5 => 200
  | 6 => 200
  | 7 => 100
  | 8 => 100
  | 9 => 100
  | 10 => 100
  | 11 => 100
  | 12 => 100
  | 13 => 40
  | 14 => 40
  | 15 => 40
  | 16 => 40
  | 17 => 600
  | 18 => 263
  | 19 => 10100
  | 20 => 10100
  | 21 => 10100
  | 22 => 40100
  | 23 => 50
  | 24 => 50
  | _ => 0
def oC (ao aa : Nat → Nat) (f : Nat → Int32) : va_W := [(ao 0, .inr (0, [.ref (aa 0), .ref (ao 1), .ref (ao 2), .ref (ao 3), .int (f 0), .int (f 1), .int (f 2), .int (f 3)])), (ao 1, .inr (1, [.ref (aa 1), .ref (aa 2), .ref (aa 3), .ref (aa 4), .ref (aa 5), .ref (aa 6), .ref (aa 7), .ref (aa 8), .ref (aa 9), .ref (aa 10), .ref (aa 11), .ref (aa 12), .int (f 4), .int (f 5), .int (f 6), .int (f 7), .int (f 8), .int (f 9), .int (f 10)])), (ao 2, .inr (2, [.ref (ao 1), .ref (aa 0), .ref (aa 13), .ref (aa 14), .ref (aa 15), .ref (aa 16), .int (f 11), .int (f 12), .int (f 13), .int (f 14), .int (f 15), .int (f 16), .int (f 17), .int (f 18), .int (f 19), .int (f 20), .int (f 21)])), (ao 3, .inr (3, [.ref (ao 1), .ref (aa 17), .ref (aa 18), .ref (aa 19), .ref (aa 20), .ref (aa 21), .ref (aa 22), .ref (aa 23), .ref (aa 24), .int (f 22), .int (f 23), .int (f 24), .int (f 25), .int (f 26), .int (f 27)]))]
abbrev LC (ao aa : Nat → Nat) (cA : ClassId) (σ : g_S) : va_W := g_lay (oC ao aa) nAC lenC aa cA σ
theorem LC_n {ao aa : Nat → Nat} {f : Nat → Int32} : (oC ao aa f).length = 4 := rfl
section LayC
variable {X : g_X} {rv : g_O} {we : va_W} {lv : List (Nat × Value)} {pc : Nat} {st : List Value} {cc : ByteArray} {own : String} {d L nL : Nat} {ret : Option FieldType} {ao aa : Nat → Nat} {σ : g_S}
theorem Cr_Desk_told (hC : gC X cc own d L nL ret) {index : Nat} (hl : Cond.fieldLink own index "PatternDesk" "told" "[I" ∈ g_TB) (hd : decode cc pc = .ok (.getfield index, 3)) (k : gw X rv we (LC ao aa X.2.2.1 σ) lv (pc + 3) (.ref (aa 0) :: st)) : gw X rv we (LC ao aa X.2.2.1 σ) lv pc (.ref (ao 0) :: st) :=
  gw_get hC in_Desk 0 (g_lay_obj rfl) rfl 0 (by decide) hl rfl rfl hd k
theorem Cr_Desk_program (hC : gC X cc own d L nL ret) {index : Nat} (hl : Cond.fieldLink own index "PatternDesk" "program" "LPatternDesk$Program;" ∈ g_TB) (hd : decode cc pc = .ok (.getfield index, 3)) (k : gw X rv we (LC ao aa X.2.2.1 σ) lv (pc + 3) (.ref (ao 1) :: st)) : gw X rv we (LC ao aa X.2.2.1 σ) lv pc (.ref (ao 0) :: st) :=
  gw_get hC in_Desk 0 (g_lay_obj rfl) rfl 1 (by decide) hl rfl rfl hd k
theorem Cr_Desk_reader (hC : gC X cc own d L nL ret) {index : Nat} (hl : Cond.fieldLink own index "PatternDesk" "reader" "LPatternDesk$Reader;" ∈ g_TB) (hd : decode cc pc = .ok (.getfield index, 3)) (k : gw X rv we (LC ao aa X.2.2.1 σ) lv (pc + 3) (.ref (ao 2) :: st)) : gw X rv we (LC ao aa X.2.2.1 σ) lv pc (.ref (ao 0) :: st) :=
  gw_get hC in_Desk 0 (g_lay_obj rfl) rfl 2 (by decide) hl rfl rfl hd k
theorem Cr_Desk_machine (hC : gC X cc own d L nL ret) {index : Nat} (hl : Cond.fieldLink own index "PatternDesk" "machine" "LPatternDesk$Machine;" ∈ g_TB) (hd : decode cc pc = .ok (.getfield index, 3)) (k : gw X rv we (LC ao aa X.2.2.1 σ) lv (pc + 3) (.ref (ao 3) :: st)) : gw X rv we (LC ao aa X.2.2.1 σ) lv pc (.ref (ao 0) :: st) :=
  gw_get hC in_Desk 0 (g_lay_obj rfl) rfl 3 (by decide) hl rfl rfl hd k
theorem Cg0 (hC : gC X cc own d L nL ret) {index : Nat} (hl : Cond.fieldLink own index "PatternDesk" "toldCount" "I" ∈ g_TB) (hd : decode cc pc = .ok (.getfield index, 3)) (v : Int32) (hv : σ.1 0 = v) (k : gw X rv we (LC ao aa X.2.2.1 σ) lv (pc + 3) (.int v :: st)) : gw X rv we (LC ao aa X.2.2.1 σ) lv pc (.ref (ao 0) :: st) := by
  subst hv
  exact gw_get hC in_Desk 0 (g_lay_obj rfl) rfl 4 (by decide) hl rfl rfl hd k
theorem Cp0 (hC : gC X cc own d L nL ret) {index : Nat} (hl : Cond.fieldLink own index "PatternDesk" "toldCount" "I" ∈ g_TB) (hd : decode cc pc = .ok (.putfield index, 3)) {v : Int32} (k : gw X rv we (LC ao aa X.2.2.1 (gF σ 0 v)) lv (pc + 3) st) : gw X rv we (LC ao aa X.2.2.1 σ) lv pc (.int v :: .ref (ao 0) :: st) :=
  gw_put hC in_Desk ty_Desk ty_Desk_ok nm_Desk 0 (g_lay_obj rfl) rfl 4 (by decide) hl rfl rfl (ty := .int) (by decide +kernel) rfl rfl (Nat.le_of_ble_eq_true rfl) _ (g_lay_setO (Nat.le_of_ble_eq_true rfl) rfl) hd k
theorem Cg1 (hC : gC X cc own d L nL ret) {index : Nat} (hl : Cond.fieldLink own index "PatternDesk" "wrongPlace" "I" ∈ g_TB) (hd : decode cc pc = .ok (.getfield index, 3)) (v : Int32) (hv : σ.1 1 = v) (k : gw X rv we (LC ao aa X.2.2.1 σ) lv (pc + 3) (.int v :: st)) : gw X rv we (LC ao aa X.2.2.1 σ) lv pc (.ref (ao 0) :: st) := by
  subst hv
  exact gw_get hC in_Desk 0 (g_lay_obj rfl) rfl 5 (by decide) hl rfl rfl hd k
theorem Cp1 (hC : gC X cc own d L nL ret) {index : Nat} (hl : Cond.fieldLink own index "PatternDesk" "wrongPlace" "I" ∈ g_TB) (hd : decode cc pc = .ok (.putfield index, 3)) {v : Int32} (k : gw X rv we (LC ao aa X.2.2.1 (gF σ 1 v)) lv (pc + 3) st) : gw X rv we (LC ao aa X.2.2.1 σ) lv pc (.int v :: .ref (ao 0) :: st) :=
  gw_put hC in_Desk ty_Desk ty_Desk_ok nm_Desk 0 (g_lay_obj rfl) rfl 5 (by decide) hl rfl rfl (ty := .int) (by decide +kernel) rfl rfl (Nat.le_of_ble_eq_true rfl) _ (g_lay_setO (Nat.le_of_ble_eq_true rfl) rfl) hd k
theorem Cg2 (hC : gC X cc own d L nL ret) {index : Nat} (hl : Cond.fieldLink own index "PatternDesk" "hasPattern" "Z" ∈ g_TB) (hd : decode cc pc = .ok (.getfield index, 3)) (v : Int32) (hv : σ.1 2 = v) (k : gw X rv we (LC ao aa X.2.2.1 σ) lv (pc + 3) (.int v :: st)) : gw X rv we (LC ao aa X.2.2.1 σ) lv pc (.ref (ao 0) :: st) := by
  subst hv
  exact gw_get hC in_Desk 0 (g_lay_obj rfl) rfl 6 (by decide) hl rfl rfl hd k
theorem Cp2 (hC : gC X cc own d L nL ret) {index : Nat} (hl : Cond.fieldLink own index "PatternDesk" "hasPattern" "Z" ∈ g_TB) (hd : decode cc pc = .ok (.putfield index, 3)) {v : Int32} (hb : gB v = true) (k : gw X rv we (LC ao aa X.2.2.1 (gF σ 2 v)) lv (pc + 3) st) : gw X rv we (LC ao aa X.2.2.1 σ) lv pc (.int v :: .ref (ao 0) :: st) :=
  gw_put hC in_Desk ty_Desk ty_Desk_ok nm_Desk 0 (g_lay_obj rfl) rfl 6 (by decide) hl rfl rfl (ty := .boolean) (by decide +kernel) (gB_narrow hb) hb (Nat.le_of_ble_eq_true rfl) _ (g_lay_setO (Nat.le_of_ble_eq_true rfl) rfl) hd k
theorem Cg3 (hC : gC X cc own d L nL ret) {index : Nat} (hl : Cond.fieldLink own index "PatternDesk" "hasResult" "Z" ∈ g_TB) (hd : decode cc pc = .ok (.getfield index, 3)) (v : Int32) (hv : σ.1 3 = v) (k : gw X rv we (LC ao aa X.2.2.1 σ) lv (pc + 3) (.int v :: st)) : gw X rv we (LC ao aa X.2.2.1 σ) lv pc (.ref (ao 0) :: st) := by
  subst hv
  exact gw_get hC in_Desk 0 (g_lay_obj rfl) rfl 7 (by decide) hl rfl rfl hd k
theorem Cp3 (hC : gC X cc own d L nL ret) {index : Nat} (hl : Cond.fieldLink own index "PatternDesk" "hasResult" "Z" ∈ g_TB) (hd : decode cc pc = .ok (.putfield index, 3)) {v : Int32} (hb : gB v = true) (k : gw X rv we (LC ao aa X.2.2.1 (gF σ 3 v)) lv (pc + 3) st) : gw X rv we (LC ao aa X.2.2.1 σ) lv pc (.int v :: .ref (ao 0) :: st) :=
  gw_put hC in_Desk ty_Desk ty_Desk_ok nm_Desk 0 (g_lay_obj rfl) rfl 7 (by decide) hl rfl rfl (ty := .boolean) (by decide +kernel) (gB_narrow hb) hb (Nat.le_of_ble_eq_true rfl) _ (g_lay_setO (Nat.le_of_ble_eq_true rfl) rfl) hd k
theorem Cr_Program_kind (hC : gC X cc own d L nL ret) {index : Nat} (hl : Cond.fieldLink own index "PatternDesk$Program" "kind" "[I" ∈ g_TB) (hd : decode cc pc = .ok (.getfield index, 3)) (k : gw X rv we (LC ao aa X.2.2.1 σ) lv (pc + 3) (.ref (aa 1) :: st)) : gw X rv we (LC ao aa X.2.2.1 σ) lv pc (.ref (ao 1) :: st) :=
  gw_get hC in_Program 1 (g_lay_obj rfl) rfl 0 (by decide) hl rfl rfl hd k
theorem Cr_Program_next (hC : gC X cc own d L nL ret) {index : Nat} (hl : Cond.fieldLink own index "PatternDesk$Program" "next" "[I" ∈ g_TB) (hd : decode cc pc = .ok (.getfield index, 3)) (k : gw X rv we (LC ao aa X.2.2.1 σ) lv (pc + 3) (.ref (aa 2) :: st)) : gw X rv we (LC ao aa X.2.2.1 σ) lv pc (.ref (ao 1) :: st) :=
  gw_get hC in_Program 1 (g_lay_obj rfl) rfl 1 (by decide) hl rfl rfl hd k
theorem Cr_Program_first (hC : gC X cc own d L nL ret) {index : Nat} (hl : Cond.fieldLink own index "PatternDesk$Program" "first" "[I" ∈ g_TB) (hd : decode cc pc = .ok (.getfield index, 3)) (k : gw X rv we (LC ao aa X.2.2.1 σ) lv (pc + 3) (.ref (aa 3) :: st)) : gw X rv we (LC ao aa X.2.2.1 σ) lv pc (.ref (ao 1) :: st) :=
  gw_get hC in_Program 1 (g_lay_obj rfl) rfl 2 (by decide) hl rfl rfl hd k
theorem Cr_Program_second (hC : gC X cc own d L nL ret) {index : Nat} (hl : Cond.fieldLink own index "PatternDesk$Program" "second" "[I" ∈ g_TB) (hd : decode cc pc = .ok (.getfield index, 3)) (k : gw X rv we (LC ao aa X.2.2.1 σ) lv (pc + 3) (.ref (aa 4) :: st)) : gw X rv we (LC ao aa X.2.2.1 σ) lv pc (.ref (ao 1) :: st) :=
  gw_get hC in_Program 1 (g_lay_obj rfl) rfl 3 (by decide) hl rfl rfl hd k
theorem Cr_Program_low (hC : gC X cc own d L nL ret) {index : Nat} (hl : Cond.fieldLink own index "PatternDesk$Program" "low" "[I" ∈ g_TB) (hd : decode cc pc = .ok (.getfield index, 3)) (k : gw X rv we (LC ao aa X.2.2.1 σ) lv (pc + 3) (.ref (aa 5) :: st)) : gw X rv we (LC ao aa X.2.2.1 σ) lv pc (.ref (ao 1) :: st) :=
  gw_get hC in_Program 1 (g_lay_obj rfl) rfl 4 (by decide) hl rfl rfl hd k
theorem Cr_Program_high (hC : gC X cc own d L nL ret) {index : Nat} (hl : Cond.fieldLink own index "PatternDesk$Program" "high" "[I" ∈ g_TB) (hd : decode cc pc = .ok (.getfield index, 3)) (k : gw X rv we (LC ao aa X.2.2.1 σ) lv (pc + 3) (.ref (aa 6) :: st)) : gw X rv we (LC ao aa X.2.2.1 σ) lv pc (.ref (ao 1) :: st) :=
  gw_get hC in_Program 1 (g_lay_obj rfl) rfl 5 (by decide) hl rfl rfl hd k
theorem Cr_Program_least (hC : gC X cc own d L nL ret) {index : Nat} (hl : Cond.fieldLink own index "PatternDesk$Program" "least" "[I" ∈ g_TB) (hd : decode cc pc = .ok (.getfield index, 3)) (k : gw X rv we (LC ao aa X.2.2.1 σ) lv (pc + 3) (.ref (aa 7) :: st)) : gw X rv we (LC ao aa X.2.2.1 σ) lv pc (.ref (ao 1) :: st) :=
  gw_get hC in_Program 1 (g_lay_obj rfl) rfl 6 (by decide) hl rfl rfl hd k
theorem Cr_Program_most (hC : gC X cc own d L nL ret) {index : Nat} (hl : Cond.fieldLink own index "PatternDesk$Program" "most" "[I" ∈ g_TB) (hd : decode cc pc = .ok (.getfield index, 3)) (k : gw X rv we (LC ao aa X.2.2.1 σ) lv (pc + 3) (.ref (aa 8) :: st)) : gw X rv we (LC ao aa X.2.2.1 σ) lv pc (.ref (ao 1) :: st) :=
  gw_get hC in_Program 1 (g_lay_obj rfl) rfl 7 (by decide) hl rfl rfl hd k
theorem Cr_Program_lazy (hC : gC X cc own d L nL ret) {index : Nat} (hl : Cond.fieldLink own index "PatternDesk$Program" "lazy" "[I" ∈ g_TB) (hd : decode cc pc = .ok (.getfield index, 3)) (k : gw X rv we (LC ao aa X.2.2.1 σ) lv (pc + 3) (.ref (aa 9) :: st)) : gw X rv we (LC ao aa X.2.2.1 σ) lv pc (.ref (ao 1) :: st) :=
  gw_get hC in_Program 1 (g_lay_obj rfl) rfl 8 (by decide) hl rfl rfl hd k
theorem Cr_Program_groupsBefore (hC : gC X cc own d L nL ret) {index : Nat} (hl : Cond.fieldLink own index "PatternDesk$Program" "groupsBefore" "[I" ∈ g_TB) (hd : decode cc pc = .ok (.getfield index, 3)) (k : gw X rv we (LC ao aa X.2.2.1 σ) lv (pc + 3) (.ref (aa 10) :: st)) : gw X rv we (LC ao aa X.2.2.1 σ) lv pc (.ref (ao 1) :: st) :=
  gw_get hC in_Program 1 (g_lay_obj rfl) rfl 9 (by decide) hl rfl rfl hd k
theorem Cr_Program_groupsThrough (hC : gC X cc own d L nL ret) {index : Nat} (hl : Cond.fieldLink own index "PatternDesk$Program" "groupsThrough" "[I" ∈ g_TB) (hd : decode cc pc = .ok (.getfield index, 3)) (k : gw X rv we (LC ao aa X.2.2.1 σ) lv (pc + 3) (.ref (aa 11) :: st)) : gw X rv we (LC ao aa X.2.2.1 σ) lv pc (.ref (ao 1) :: st) :=
  gw_get hC in_Program 1 (g_lay_obj rfl) rfl 10 (by decide) hl rfl rfl hd k
theorem Cr_Program_head (hC : gC X cc own d L nL ret) {index : Nat} (hl : Cond.fieldLink own index "PatternDesk$Program" "head" "[I" ∈ g_TB) (hd : decode cc pc = .ok (.getfield index, 3)) (k : gw X rv we (LC ao aa X.2.2.1 σ) lv (pc + 3) (.ref (aa 12) :: st)) : gw X rv we (LC ao aa X.2.2.1 σ) lv pc (.ref (ao 1) :: st) :=
  gw_get hC in_Program 1 (g_lay_obj rfl) rfl 11 (by decide) hl rfl rfl hd k
theorem Cg4 (hC : gC X cc own d L nL ret) {index : Nat} (hl : Cond.fieldLink own index "PatternDesk$Program" "nodes" "I" ∈ g_TB) (hd : decode cc pc = .ok (.getfield index, 3)) (v : Int32) (hv : σ.1 4 = v) (k : gw X rv we (LC ao aa X.2.2.1 σ) lv (pc + 3) (.int v :: st)) : gw X rv we (LC ao aa X.2.2.1 σ) lv pc (.ref (ao 1) :: st) := by
  subst hv
  exact gw_get hC in_Program 1 (g_lay_obj rfl) rfl 12 (by decide) hl rfl rfl hd k
theorem Cp4 (hC : gC X cc own d L nL ret) {index : Nat} (hl : Cond.fieldLink own index "PatternDesk$Program" "nodes" "I" ∈ g_TB) (hd : decode cc pc = .ok (.putfield index, 3)) {v : Int32} (k : gw X rv we (LC ao aa X.2.2.1 (gF σ 4 v)) lv (pc + 3) st) : gw X rv we (LC ao aa X.2.2.1 σ) lv pc (.int v :: .ref (ao 1) :: st) :=
  gw_put hC in_Program ty_Program ty_Program_ok nm_Program 1 (g_lay_obj rfl) rfl 12 (by decide) hl rfl rfl (ty := .int) (by decide +kernel) rfl rfl (Nat.le_of_ble_eq_true rfl) _ (g_lay_setO (Nat.le_of_ble_eq_true rfl) rfl) hd k
theorem Cg5 (hC : gC X cc own d L nL ret) {index : Nat} (hl : Cond.fieldLink own index "PatternDesk$Program" "members" "I" ∈ g_TB) (hd : decode cc pc = .ok (.getfield index, 3)) (v : Int32) (hv : σ.1 5 = v) (k : gw X rv we (LC ao aa X.2.2.1 σ) lv (pc + 3) (.int v :: st)) : gw X rv we (LC ao aa X.2.2.1 σ) lv pc (.ref (ao 1) :: st) := by
  subst hv
  exact gw_get hC in_Program 1 (g_lay_obj rfl) rfl 13 (by decide) hl rfl rfl hd k
theorem Cp5 (hC : gC X cc own d L nL ret) {index : Nat} (hl : Cond.fieldLink own index "PatternDesk$Program" "members" "I" ∈ g_TB) (hd : decode cc pc = .ok (.putfield index, 3)) {v : Int32} (k : gw X rv we (LC ao aa X.2.2.1 (gF σ 5 v)) lv (pc + 3) st) : gw X rv we (LC ao aa X.2.2.1 σ) lv pc (.int v :: .ref (ao 1) :: st) :=
  gw_put hC in_Program ty_Program ty_Program_ok nm_Program 1 (g_lay_obj rfl) rfl 13 (by decide) hl rfl rfl (ty := .int) (by decide +kernel) rfl rfl (Nat.le_of_ble_eq_true rfl) _ (g_lay_setO (Nat.le_of_ble_eq_true rfl) rfl) hd k
theorem Cg6 (hC : gC X cc own d L nL ret) {index : Nat} (hl : Cond.fieldLink own index "PatternDesk$Program" "repeats" "I" ∈ g_TB) (hd : decode cc pc = .ok (.getfield index, 3)) (v : Int32) (hv : σ.1 6 = v) (k : gw X rv we (LC ao aa X.2.2.1 σ) lv (pc + 3) (.int v :: st)) : gw X rv we (LC ao aa X.2.2.1 σ) lv pc (.ref (ao 1) :: st) := by
  subst hv
  exact gw_get hC in_Program 1 (g_lay_obj rfl) rfl 14 (by decide) hl rfl rfl hd k
theorem Cp6 (hC : gC X cc own d L nL ret) {index : Nat} (hl : Cond.fieldLink own index "PatternDesk$Program" "repeats" "I" ∈ g_TB) (hd : decode cc pc = .ok (.putfield index, 3)) {v : Int32} (k : gw X rv we (LC ao aa X.2.2.1 (gF σ 6 v)) lv (pc + 3) st) : gw X rv we (LC ao aa X.2.2.1 σ) lv pc (.int v :: .ref (ao 1) :: st) :=
  gw_put hC in_Program ty_Program ty_Program_ok nm_Program 1 (g_lay_obj rfl) rfl 14 (by decide) hl rfl rfl (ty := .int) (by decide +kernel) rfl rfl (Nat.le_of_ble_eq_true rfl) _ (g_lay_setO (Nat.le_of_ble_eq_true rfl) rfl) hd k
theorem Cg7 (hC : gC X cc own d L nL ret) {index : Nat} (hl : Cond.fieldLink own index "PatternDesk$Program" "looks" "I" ∈ g_TB) (hd : decode cc pc = .ok (.getfield index, 3)) (v : Int32) (hv : σ.1 7 = v) (k : gw X rv we (LC ao aa X.2.2.1 σ) lv (pc + 3) (.int v :: st)) : gw X rv we (LC ao aa X.2.2.1 σ) lv pc (.ref (ao 1) :: st) := by
  subst hv
  exact gw_get hC in_Program 1 (g_lay_obj rfl) rfl 15 (by decide) hl rfl rfl hd k
theorem Cp7 (hC : gC X cc own d L nL ret) {index : Nat} (hl : Cond.fieldLink own index "PatternDesk$Program" "looks" "I" ∈ g_TB) (hd : decode cc pc = .ok (.putfield index, 3)) {v : Int32} (k : gw X rv we (LC ao aa X.2.2.1 (gF σ 7 v)) lv (pc + 3) st) : gw X rv we (LC ao aa X.2.2.1 σ) lv pc (.int v :: .ref (ao 1) :: st) :=
  gw_put hC in_Program ty_Program ty_Program_ok nm_Program 1 (g_lay_obj rfl) rfl 15 (by decide) hl rfl rfl (ty := .int) (by decide +kernel) rfl rfl (Nat.le_of_ble_eq_true rfl) _ (g_lay_setO (Nat.le_of_ble_eq_true rfl) rfl) hd k
theorem Cg8 (hC : gC X cc own d L nL ret) {index : Nat} (hl : Cond.fieldLink own index "PatternDesk$Program" "groups" "I" ∈ g_TB) (hd : decode cc pc = .ok (.getfield index, 3)) (v : Int32) (hv : σ.1 8 = v) (k : gw X rv we (LC ao aa X.2.2.1 σ) lv (pc + 3) (.int v :: st)) : gw X rv we (LC ao aa X.2.2.1 σ) lv pc (.ref (ao 1) :: st) := by
  subst hv
  exact gw_get hC in_Program 1 (g_lay_obj rfl) rfl 16 (by decide) hl rfl rfl hd k
theorem Cp8 (hC : gC X cc own d L nL ret) {index : Nat} (hl : Cond.fieldLink own index "PatternDesk$Program" "groups" "I" ∈ g_TB) (hd : decode cc pc = .ok (.putfield index, 3)) {v : Int32} (k : gw X rv we (LC ao aa X.2.2.1 (gF σ 8 v)) lv (pc + 3) st) : gw X rv we (LC ao aa X.2.2.1 σ) lv pc (.int v :: .ref (ao 1) :: st) :=
  gw_put hC in_Program ty_Program ty_Program_ok nm_Program 1 (g_lay_obj rfl) rfl 16 (by decide) hl rfl rfl (ty := .int) (by decide +kernel) rfl rfl (Nat.le_of_ble_eq_true rfl) _ (g_lay_setO (Nat.le_of_ble_eq_true rfl) rfl) hd k
theorem Cg9 (hC : gC X cc own d L nL ret) {index : Nat} (hl : Cond.fieldLink own index "PatternDesk$Program" "ignoring" "Z" ∈ g_TB) (hd : decode cc pc = .ok (.getfield index, 3)) (v : Int32) (hv : σ.1 9 = v) (k : gw X rv we (LC ao aa X.2.2.1 σ) lv (pc + 3) (.int v :: st)) : gw X rv we (LC ao aa X.2.2.1 σ) lv pc (.ref (ao 1) :: st) := by
  subst hv
  exact gw_get hC in_Program 1 (g_lay_obj rfl) rfl 17 (by decide) hl rfl rfl hd k
theorem Cp9 (hC : gC X cc own d L nL ret) {index : Nat} (hl : Cond.fieldLink own index "PatternDesk$Program" "ignoring" "Z" ∈ g_TB) (hd : decode cc pc = .ok (.putfield index, 3)) {v : Int32} (hb : gB v = true) (k : gw X rv we (LC ao aa X.2.2.1 (gF σ 9 v)) lv (pc + 3) st) : gw X rv we (LC ao aa X.2.2.1 σ) lv pc (.int v :: .ref (ao 1) :: st) :=
  gw_put hC in_Program ty_Program ty_Program_ok nm_Program 1 (g_lay_obj rfl) rfl 17 (by decide) hl rfl rfl (ty := .boolean) (by decide +kernel) (gB_narrow hb) hb (Nat.le_of_ble_eq_true rfl) _ (g_lay_setO (Nat.le_of_ble_eq_true rfl) rfl) hd k
theorem Cg10 (hC : gC X cc own d L nL ret) {index : Nat} (hl : Cond.fieldLink own index "PatternDesk$Program" "lines" "Z" ∈ g_TB) (hd : decode cc pc = .ok (.getfield index, 3)) (v : Int32) (hv : σ.1 10 = v) (k : gw X rv we (LC ao aa X.2.2.1 σ) lv (pc + 3) (.int v :: st)) : gw X rv we (LC ao aa X.2.2.1 σ) lv pc (.ref (ao 1) :: st) := by
  subst hv
  exact gw_get hC in_Program 1 (g_lay_obj rfl) rfl 18 (by decide) hl rfl rfl hd k
theorem Cp10 (hC : gC X cc own d L nL ret) {index : Nat} (hl : Cond.fieldLink own index "PatternDesk$Program" "lines" "Z" ∈ g_TB) (hd : decode cc pc = .ok (.putfield index, 3)) {v : Int32} (hb : gB v = true) (k : gw X rv we (LC ao aa X.2.2.1 (gF σ 10 v)) lv (pc + 3) st) : gw X rv we (LC ao aa X.2.2.1 σ) lv pc (.int v :: .ref (ao 1) :: st) :=
  gw_put hC in_Program ty_Program ty_Program_ok nm_Program 1 (g_lay_obj rfl) rfl 18 (by decide) hl rfl rfl (ty := .boolean) (by decide +kernel) (gB_narrow hb) hb (Nat.le_of_ble_eq_true rfl) _ (g_lay_setO (Nat.le_of_ble_eq_true rfl) rfl) hd k
theorem Cr_Reader_program (hC : gC X cc own d L nL ret) {index : Nat} (hl : Cond.fieldLink own index "PatternDesk$Reader" "program" "LPatternDesk$Program;" ∈ g_TB) (hd : decode cc pc = .ok (.getfield index, 3)) (k : gw X rv we (LC ao aa X.2.2.1 σ) lv (pc + 3) (.ref (ao 1) :: st)) : gw X rv we (LC ao aa X.2.2.1 σ) lv pc (.ref (ao 2) :: st) :=
  gw_get hC in_Reader 2 (g_lay_obj rfl) rfl 0 (by decide) hl rfl rfl hd k
theorem Cr_Reader_units (hC : gC X cc own d L nL ret) {index : Nat} (hl : Cond.fieldLink own index "PatternDesk$Reader" "units" "[I" ∈ g_TB) (hd : decode cc pc = .ok (.getfield index, 3)) (k : gw X rv we (LC ao aa X.2.2.1 σ) lv (pc + 3) (.ref (aa 0) :: st)) : gw X rv we (LC ao aa X.2.2.1 σ) lv pc (.ref (ao 2) :: st) :=
  gw_get hC in_Reader 2 (g_lay_obj rfl) rfl 1 (by decide) hl rfl rfl hd k
theorem Cr_Reader_openNode (hC : gC X cc own d L nL ret) {index : Nat} (hl : Cond.fieldLink own index "PatternDesk$Reader" "openNode" "[I" ∈ g_TB) (hd : decode cc pc = .ok (.getfield index, 3)) (k : gw X rv we (LC ao aa X.2.2.1 σ) lv (pc + 3) (.ref (aa 13) :: st)) : gw X rv we (LC ao aa X.2.2.1 σ) lv pc (.ref (ao 2) :: st) :=
  gw_get hC in_Reader 2 (g_lay_obj rfl) rfl 2 (by decide) hl rfl rfl hd k
theorem Cr_Reader_outerTail (hC : gC X cc own d L nL ret) {index : Nat} (hl : Cond.fieldLink own index "PatternDesk$Reader" "outerTail" "[I" ∈ g_TB) (hd : decode cc pc = .ok (.getfield index, 3)) (k : gw X rv we (LC ao aa X.2.2.1 σ) lv (pc + 3) (.ref (aa 14) :: st)) : gw X rv we (LC ao aa X.2.2.1 σ) lv pc (.ref (ao 2) :: st) :=
  gw_get hC in_Reader 2 (g_lay_obj rfl) rfl 3 (by decide) hl rfl rfl hd k
theorem Cr_Reader_outerAlternative (hC : gC X cc own d L nL ret) {index : Nat} (hl : Cond.fieldLink own index "PatternDesk$Reader" "outerAlternative" "[I" ∈ g_TB) (hd : decode cc pc = .ok (.getfield index, 3)) (k : gw X rv we (LC ao aa X.2.2.1 σ) lv (pc + 3) (.ref (aa 15) :: st)) : gw X rv we (LC ao aa X.2.2.1 σ) lv pc (.ref (ao 2) :: st) :=
  gw_get hC in_Reader 2 (g_lay_obj rfl) rfl 4 (by decide) hl rfl rfl hd k
theorem Cr_Reader_outerGroups (hC : gC X cc own d L nL ret) {index : Nat} (hl : Cond.fieldLink own index "PatternDesk$Reader" "outerGroups" "[I" ∈ g_TB) (hd : decode cc pc = .ok (.getfield index, 3)) (k : gw X rv we (LC ao aa X.2.2.1 σ) lv (pc + 3) (.ref (aa 16) :: st)) : gw X rv we (LC ao aa X.2.2.1 σ) lv pc (.ref (ao 2) :: st) :=
  gw_get hC in_Reader 2 (g_lay_obj rfl) rfl 5 (by decide) hl rfl rfl hd k
theorem Cg11 (hC : gC X cc own d L nL ret) {index : Nat} (hl : Cond.fieldLink own index "PatternDesk$Reader" "length" "I" ∈ g_TB) (hd : decode cc pc = .ok (.getfield index, 3)) (v : Int32) (hv : σ.1 11 = v) (k : gw X rv we (LC ao aa X.2.2.1 σ) lv (pc + 3) (.int v :: st)) : gw X rv we (LC ao aa X.2.2.1 σ) lv pc (.ref (ao 2) :: st) := by
  subst hv
  exact gw_get hC in_Reader 2 (g_lay_obj rfl) rfl 6 (by decide) hl rfl rfl hd k
theorem Cp11 (hC : gC X cc own d L nL ret) {index : Nat} (hl : Cond.fieldLink own index "PatternDesk$Reader" "length" "I" ∈ g_TB) (hd : decode cc pc = .ok (.putfield index, 3)) {v : Int32} (k : gw X rv we (LC ao aa X.2.2.1 (gF σ 11 v)) lv (pc + 3) st) : gw X rv we (LC ao aa X.2.2.1 σ) lv pc (.int v :: .ref (ao 2) :: st) :=
  gw_put hC in_Reader ty_Reader ty_Reader_ok nm_Reader 2 (g_lay_obj rfl) rfl 6 (by decide) hl rfl rfl (ty := .int) (by decide +kernel) rfl rfl (Nat.le_of_ble_eq_true rfl) _ (g_lay_setO (Nat.le_of_ble_eq_true rfl) rfl) hd k
theorem Cg12 (hC : gC X cc own d L nL ret) {index : Nat} (hl : Cond.fieldLink own index "PatternDesk$Reader" "at" "I" ∈ g_TB) (hd : decode cc pc = .ok (.getfield index, 3)) (v : Int32) (hv : σ.1 12 = v) (k : gw X rv we (LC ao aa X.2.2.1 σ) lv (pc + 3) (.int v :: st)) : gw X rv we (LC ao aa X.2.2.1 σ) lv pc (.ref (ao 2) :: st) := by
  subst hv
  exact gw_get hC in_Reader 2 (g_lay_obj rfl) rfl 7 (by decide) hl rfl rfl hd k
theorem Cp12 (hC : gC X cc own d L nL ret) {index : Nat} (hl : Cond.fieldLink own index "PatternDesk$Reader" "at" "I" ∈ g_TB) (hd : decode cc pc = .ok (.putfield index, 3)) {v : Int32} (k : gw X rv we (LC ao aa X.2.2.1 (gF σ 12 v)) lv (pc + 3) st) : gw X rv we (LC ao aa X.2.2.1 σ) lv pc (.int v :: .ref (ao 2) :: st) :=
  gw_put hC in_Reader ty_Reader ty_Reader_ok nm_Reader 2 (g_lay_obj rfl) rfl 7 (by decide) hl rfl rfl (ty := .int) (by decide +kernel) rfl rfl (Nat.le_of_ble_eq_true rfl) _ (g_lay_setO (Nat.le_of_ble_eq_true rfl) rfl) hd k
theorem Cg13 (hC : gC X cc own d L nL ret) {index : Nat} (hl : Cond.fieldLink own index "PatternDesk$Reader" "wrong" "I" ∈ g_TB) (hd : decode cc pc = .ok (.getfield index, 3)) (v : Int32) (hv : σ.1 13 = v) (k : gw X rv we (LC ao aa X.2.2.1 σ) lv (pc + 3) (.int v :: st)) : gw X rv we (LC ao aa X.2.2.1 σ) lv pc (.ref (ao 2) :: st) := by
  subst hv
  exact gw_get hC in_Reader 2 (g_lay_obj rfl) rfl 8 (by decide) hl rfl rfl hd k
theorem Cp13 (hC : gC X cc own d L nL ret) {index : Nat} (hl : Cond.fieldLink own index "PatternDesk$Reader" "wrong" "I" ∈ g_TB) (hd : decode cc pc = .ok (.putfield index, 3)) {v : Int32} (k : gw X rv we (LC ao aa X.2.2.1 (gF σ 13 v)) lv (pc + 3) st) : gw X rv we (LC ao aa X.2.2.1 σ) lv pc (.int v :: .ref (ao 2) :: st) :=
  gw_put hC in_Reader ty_Reader ty_Reader_ok nm_Reader 2 (g_lay_obj rfl) rfl 8 (by decide) hl rfl rfl (ty := .int) (by decide +kernel) rfl rfl (Nat.le_of_ble_eq_true rfl) _ (g_lay_setO (Nat.le_of_ble_eq_true rfl) rfl) hd k
theorem Cg14 (hC : gC X cc own d L nL ret) {index : Nat} (hl : Cond.fieldLink own index "PatternDesk$Reader" "depth" "I" ∈ g_TB) (hd : decode cc pc = .ok (.getfield index, 3)) (v : Int32) (hv : σ.1 14 = v) (k : gw X rv we (LC ao aa X.2.2.1 σ) lv (pc + 3) (.int v :: st)) : gw X rv we (LC ao aa X.2.2.1 σ) lv pc (.ref (ao 2) :: st) := by
  subst hv
  exact gw_get hC in_Reader 2 (g_lay_obj rfl) rfl 9 (by decide) hl rfl rfl hd k
theorem Cp14 (hC : gC X cc own d L nL ret) {index : Nat} (hl : Cond.fieldLink own index "PatternDesk$Reader" "depth" "I" ∈ g_TB) (hd : decode cc pc = .ok (.putfield index, 3)) {v : Int32} (k : gw X rv we (LC ao aa X.2.2.1 (gF σ 14 v)) lv (pc + 3) st) : gw X rv we (LC ao aa X.2.2.1 σ) lv pc (.int v :: .ref (ao 2) :: st) :=
  gw_put hC in_Reader ty_Reader ty_Reader_ok nm_Reader 2 (g_lay_obj rfl) rfl 9 (by decide) hl rfl rfl (ty := .int) (by decide +kernel) rfl rfl (Nat.le_of_ble_eq_true rfl) _ (g_lay_setO (Nat.le_of_ble_eq_true rfl) rfl) hd k
theorem Cg15 (hC : gC X cc own d L nL ret) {index : Nat} (hl : Cond.fieldLink own index "PatternDesk$Reader" "alternative" "I" ∈ g_TB) (hd : decode cc pc = .ok (.getfield index, 3)) (v : Int32) (hv : σ.1 15 = v) (k : gw X rv we (LC ao aa X.2.2.1 σ) lv (pc + 3) (.int v :: st)) : gw X rv we (LC ao aa X.2.2.1 σ) lv pc (.ref (ao 2) :: st) := by
  subst hv
  exact gw_get hC in_Reader 2 (g_lay_obj rfl) rfl 10 (by decide) hl rfl rfl hd k
theorem Cp15 (hC : gC X cc own d L nL ret) {index : Nat} (hl : Cond.fieldLink own index "PatternDesk$Reader" "alternative" "I" ∈ g_TB) (hd : decode cc pc = .ok (.putfield index, 3)) {v : Int32} (k : gw X rv we (LC ao aa X.2.2.1 (gF σ 15 v)) lv (pc + 3) st) : gw X rv we (LC ao aa X.2.2.1 σ) lv pc (.int v :: .ref (ao 2) :: st) :=
  gw_put hC in_Reader ty_Reader ty_Reader_ok nm_Reader 2 (g_lay_obj rfl) rfl 10 (by decide) hl rfl rfl (ty := .int) (by decide +kernel) rfl rfl (Nat.le_of_ble_eq_true rfl) _ (g_lay_setO (Nat.le_of_ble_eq_true rfl) rfl) hd k
theorem Cg16 (hC : gC X cc own d L nL ret) {index : Nat} (hl : Cond.fieldLink own index "PatternDesk$Reader" "tail" "I" ∈ g_TB) (hd : decode cc pc = .ok (.getfield index, 3)) (v : Int32) (hv : σ.1 16 = v) (k : gw X rv we (LC ao aa X.2.2.1 σ) lv (pc + 3) (.int v :: st)) : gw X rv we (LC ao aa X.2.2.1 σ) lv pc (.ref (ao 2) :: st) := by
  subst hv
  exact gw_get hC in_Reader 2 (g_lay_obj rfl) rfl 11 (by decide) hl rfl rfl hd k
theorem Cp16 (hC : gC X cc own d L nL ret) {index : Nat} (hl : Cond.fieldLink own index "PatternDesk$Reader" "tail" "I" ∈ g_TB) (hd : decode cc pc = .ok (.putfield index, 3)) {v : Int32} (k : gw X rv we (LC ao aa X.2.2.1 (gF σ 16 v)) lv (pc + 3) st) : gw X rv we (LC ao aa X.2.2.1 σ) lv pc (.int v :: .ref (ao 2) :: st) :=
  gw_put hC in_Reader ty_Reader ty_Reader_ok nm_Reader 2 (g_lay_obj rfl) rfl 11 (by decide) hl rfl rfl (ty := .int) (by decide +kernel) rfl rfl (Nat.le_of_ble_eq_true rfl) _ (g_lay_setO (Nat.le_of_ble_eq_true rfl) rfl) hd k
theorem Cg17 (hC : gC X cc own d L nL ret) {index : Nat} (hl : Cond.fieldLink own index "PatternDesk$Reader" "least" "I" ∈ g_TB) (hd : decode cc pc = .ok (.getfield index, 3)) (v : Int32) (hv : σ.1 17 = v) (k : gw X rv we (LC ao aa X.2.2.1 σ) lv (pc + 3) (.int v :: st)) : gw X rv we (LC ao aa X.2.2.1 σ) lv pc (.ref (ao 2) :: st) := by
  subst hv
  exact gw_get hC in_Reader 2 (g_lay_obj rfl) rfl 12 (by decide) hl rfl rfl hd k
theorem Cp17 (hC : gC X cc own d L nL ret) {index : Nat} (hl : Cond.fieldLink own index "PatternDesk$Reader" "least" "I" ∈ g_TB) (hd : decode cc pc = .ok (.putfield index, 3)) {v : Int32} (k : gw X rv we (LC ao aa X.2.2.1 (gF σ 17 v)) lv (pc + 3) st) : gw X rv we (LC ao aa X.2.2.1 σ) lv pc (.int v :: .ref (ao 2) :: st) :=
  gw_put hC in_Reader ty_Reader ty_Reader_ok nm_Reader 2 (g_lay_obj rfl) rfl 12 (by decide) hl rfl rfl (ty := .int) (by decide +kernel) rfl rfl (Nat.le_of_ble_eq_true rfl) _ (g_lay_setO (Nat.le_of_ble_eq_true rfl) rfl) hd k
theorem Cg18 (hC : gC X cc own d L nL ret) {index : Nat} (hl : Cond.fieldLink own index "PatternDesk$Reader" "most" "I" ∈ g_TB) (hd : decode cc pc = .ok (.getfield index, 3)) (v : Int32) (hv : σ.1 18 = v) (k : gw X rv we (LC ao aa X.2.2.1 σ) lv (pc + 3) (.int v :: st)) : gw X rv we (LC ao aa X.2.2.1 σ) lv pc (.ref (ao 2) :: st) := by
  subst hv
  exact gw_get hC in_Reader 2 (g_lay_obj rfl) rfl 13 (by decide) hl rfl rfl hd k
theorem Cp18 (hC : gC X cc own d L nL ret) {index : Nat} (hl : Cond.fieldLink own index "PatternDesk$Reader" "most" "I" ∈ g_TB) (hd : decode cc pc = .ok (.putfield index, 3)) {v : Int32} (k : gw X rv we (LC ao aa X.2.2.1 (gF σ 18 v)) lv (pc + 3) st) : gw X rv we (LC ao aa X.2.2.1 σ) lv pc (.int v :: .ref (ao 2) :: st) :=
  gw_put hC in_Reader ty_Reader ty_Reader_ok nm_Reader 2 (g_lay_obj rfl) rfl 13 (by decide) hl rfl rfl (ty := .int) (by decide +kernel) rfl rfl (Nat.le_of_ble_eq_true rfl) _ (g_lay_setO (Nat.le_of_ble_eq_true rfl) rfl) hd k
theorem Cg19 (hC : gC X cc own d L nL ret) {index : Nat} (hl : Cond.fieldLink own index "PatternDesk$Reader" "atomFirst" "I" ∈ g_TB) (hd : decode cc pc = .ok (.getfield index, 3)) (v : Int32) (hv : σ.1 19 = v) (k : gw X rv we (LC ao aa X.2.2.1 σ) lv (pc + 3) (.int v :: st)) : gw X rv we (LC ao aa X.2.2.1 σ) lv pc (.ref (ao 2) :: st) := by
  subst hv
  exact gw_get hC in_Reader 2 (g_lay_obj rfl) rfl 14 (by decide) hl rfl rfl hd k
theorem Cp19 (hC : gC X cc own d L nL ret) {index : Nat} (hl : Cond.fieldLink own index "PatternDesk$Reader" "atomFirst" "I" ∈ g_TB) (hd : decode cc pc = .ok (.putfield index, 3)) {v : Int32} (k : gw X rv we (LC ao aa X.2.2.1 (gF σ 19 v)) lv (pc + 3) st) : gw X rv we (LC ao aa X.2.2.1 σ) lv pc (.int v :: .ref (ao 2) :: st) :=
  gw_put hC in_Reader ty_Reader ty_Reader_ok nm_Reader 2 (g_lay_obj rfl) rfl 14 (by decide) hl rfl rfl (ty := .int) (by decide +kernel) rfl rfl (Nat.le_of_ble_eq_true rfl) _ (g_lay_setO (Nat.le_of_ble_eq_true rfl) rfl) hd k
theorem Cg20 (hC : gC X cc own d L nL ret) {index : Nat} (hl : Cond.fieldLink own index "PatternDesk$Reader" "atomLast" "I" ∈ g_TB) (hd : decode cc pc = .ok (.getfield index, 3)) (v : Int32) (hv : σ.1 20 = v) (k : gw X rv we (LC ao aa X.2.2.1 σ) lv (pc + 3) (.int v :: st)) : gw X rv we (LC ao aa X.2.2.1 σ) lv pc (.ref (ao 2) :: st) := by
  subst hv
  exact gw_get hC in_Reader 2 (g_lay_obj rfl) rfl 15 (by decide) hl rfl rfl hd k
theorem Cp20 (hC : gC X cc own d L nL ret) {index : Nat} (hl : Cond.fieldLink own index "PatternDesk$Reader" "atomLast" "I" ∈ g_TB) (hd : decode cc pc = .ok (.putfield index, 3)) {v : Int32} (k : gw X rv we (LC ao aa X.2.2.1 (gF σ 20 v)) lv (pc + 3) st) : gw X rv we (LC ao aa X.2.2.1 σ) lv pc (.int v :: .ref (ao 2) :: st) :=
  gw_put hC in_Reader ty_Reader ty_Reader_ok nm_Reader 2 (g_lay_obj rfl) rfl 15 (by decide) hl rfl rfl (ty := .int) (by decide +kernel) rfl rfl (Nat.le_of_ble_eq_true rfl) _ (g_lay_setO (Nat.le_of_ble_eq_true rfl) rfl) hd k
theorem Cg21 (hC : gC X cc own d L nL ret) {index : Nat} (hl : Cond.fieldLink own index "PatternDesk$Reader" "atomGroups" "I" ∈ g_TB) (hd : decode cc pc = .ok (.getfield index, 3)) (v : Int32) (hv : σ.1 21 = v) (k : gw X rv we (LC ao aa X.2.2.1 σ) lv (pc + 3) (.int v :: st)) : gw X rv we (LC ao aa X.2.2.1 σ) lv pc (.ref (ao 2) :: st) := by
  subst hv
  exact gw_get hC in_Reader 2 (g_lay_obj rfl) rfl 16 (by decide) hl rfl rfl hd k
theorem Cp21 (hC : gC X cc own d L nL ret) {index : Nat} (hl : Cond.fieldLink own index "PatternDesk$Reader" "atomGroups" "I" ∈ g_TB) (hd : decode cc pc = .ok (.putfield index, 3)) {v : Int32} (k : gw X rv we (LC ao aa X.2.2.1 (gF σ 21 v)) lv (pc + 3) st) : gw X rv we (LC ao aa X.2.2.1 σ) lv pc (.int v :: .ref (ao 2) :: st) :=
  gw_put hC in_Reader ty_Reader ty_Reader_ok nm_Reader 2 (g_lay_obj rfl) rfl 16 (by decide) hl rfl rfl (ty := .int) (by decide +kernel) rfl rfl (Nat.le_of_ble_eq_true rfl) _ (g_lay_setO (Nat.le_of_ble_eq_true rfl) rfl) hd k
theorem Cr_Machine_program (hC : gC X cc own d L nL ret) {index : Nat} (hl : Cond.fieldLink own index "PatternDesk$Machine" "program" "LPatternDesk$Program;" ∈ g_TB) (hd : decode cc pc = .ok (.getfield index, 3)) (k : gw X rv we (LC ao aa X.2.2.1 σ) lv (pc + 3) (.ref (ao 1) :: st)) : gw X rv we (LC ao aa X.2.2.1 σ) lv pc (.ref (ao 3) :: st) :=
  gw_get hC in_Machine 3 (g_lay_obj rfl) rfl 0 (by decide) hl rfl rfl hd k
theorem Cr_Machine_text (hC : gC X cc own d L nL ret) {index : Nat} (hl : Cond.fieldLink own index "PatternDesk$Machine" "text" "[I" ∈ g_TB) (hd : decode cc pc = .ok (.getfield index, 3)) (k : gw X rv we (LC ao aa X.2.2.1 σ) lv (pc + 3) (.ref (aa 17) :: st)) : gw X rv we (LC ao aa X.2.2.1 σ) lv pc (.ref (ao 3) :: st) :=
  gw_get hC in_Machine 3 (g_lay_obj rfl) rfl 1 (by decide) hl rfl rfl hd k
theorem Cr_Machine_cells (hC : gC X cc own d L nL ret) {index : Nat} (hl : Cond.fieldLink own index "PatternDesk$Machine" "cells" "[I" ∈ g_TB) (hd : decode cc pc = .ok (.getfield index, 3)) (k : gw X rv we (LC ao aa X.2.2.1 σ) lv (pc + 3) (.ref (aa 18) :: st)) : gw X rv we (LC ao aa X.2.2.1 σ) lv pc (.ref (ao 3) :: st) :=
  gw_get hC in_Machine 3 (g_lay_obj rfl) rfl 2 (by decide) hl rfl rfl hd k
theorem Cr_Machine_choiceNode (hC : gC X cc own d L nL ret) {index : Nat} (hl : Cond.fieldLink own index "PatternDesk$Machine" "choiceNode" "[I" ∈ g_TB) (hd : decode cc pc = .ok (.getfield index, 3)) (k : gw X rv we (LC ao aa X.2.2.1 σ) lv (pc + 3) (.ref (aa 19) :: st)) : gw X rv we (LC ao aa X.2.2.1 σ) lv pc (.ref (ao 3) :: st) :=
  gw_get hC in_Machine 3 (g_lay_obj rfl) rfl 3 (by decide) hl rfl rfl hd k
theorem Cr_Machine_choiceAt (hC : gC X cc own d L nL ret) {index : Nat} (hl : Cond.fieldLink own index "PatternDesk$Machine" "choiceAt" "[I" ∈ g_TB) (hd : decode cc pc = .ok (.getfield index, 3)) (k : gw X rv we (LC ao aa X.2.2.1 σ) lv (pc + 3) (.ref (aa 20) :: st)) : gw X rv we (LC ao aa X.2.2.1 σ) lv pc (.ref (ao 3) :: st) :=
  gw_get hC in_Machine 3 (g_lay_obj rfl) rfl 4 (by decide) hl rfl rfl hd k
theorem Cr_Machine_choiceTrail (hC : gC X cc own d L nL ret) {index : Nat} (hl : Cond.fieldLink own index "PatternDesk$Machine" "choiceTrail" "[I" ∈ g_TB) (hd : decode cc pc = .ok (.getfield index, 3)) (k : gw X rv we (LC ao aa X.2.2.1 σ) lv (pc + 3) (.ref (aa 21) :: st)) : gw X rv we (LC ao aa X.2.2.1 σ) lv pc (.ref (ao 3) :: st) :=
  gw_get hC in_Machine 3 (g_lay_obj rfl) rfl 5 (by decide) hl rfl rfl hd k
theorem Cr_Machine_trail (hC : gC X cc own d L nL ret) {index : Nat} (hl : Cond.fieldLink own index "PatternDesk$Machine" "trail" "[I" ∈ g_TB) (hd : decode cc pc = .ok (.getfield index, 3)) (k : gw X rv we (LC ao aa X.2.2.1 σ) lv (pc + 3) (.ref (aa 22) :: st)) : gw X rv we (LC ao aa X.2.2.1 σ) lv pc (.ref (ao 3) :: st) :=
  gw_get hC in_Machine 3 (g_lay_obj rfl) rfl 6 (by decide) hl rfl rfl hd k
theorem Cr_Machine_lookChoices (hC : gC X cc own d L nL ret) {index : Nat} (hl : Cond.fieldLink own index "PatternDesk$Machine" "lookChoices" "[I" ∈ g_TB) (hd : decode cc pc = .ok (.getfield index, 3)) (k : gw X rv we (LC ao aa X.2.2.1 σ) lv (pc + 3) (.ref (aa 23) :: st)) : gw X rv we (LC ao aa X.2.2.1 σ) lv pc (.ref (ao 3) :: st) :=
  gw_get hC in_Machine 3 (g_lay_obj rfl) rfl 7 (by decide) hl rfl rfl hd k
theorem Cr_Machine_lookAt (hC : gC X cc own d L nL ret) {index : Nat} (hl : Cond.fieldLink own index "PatternDesk$Machine" "lookAt" "[I" ∈ g_TB) (hd : decode cc pc = .ok (.getfield index, 3)) (k : gw X rv we (LC ao aa X.2.2.1 σ) lv (pc + 3) (.ref (aa 24) :: st)) : gw X rv we (LC ao aa X.2.2.1 σ) lv pc (.ref (ao 3) :: st) :=
  gw_get hC in_Machine 3 (g_lay_obj rfl) rfl 8 (by decide) hl rfl rfl hd k
theorem Cg22 (hC : gC X cc own d L nL ret) {index : Nat} (hl : Cond.fieldLink own index "PatternDesk$Machine" "choices" "I" ∈ g_TB) (hd : decode cc pc = .ok (.getfield index, 3)) (v : Int32) (hv : σ.1 22 = v) (k : gw X rv we (LC ao aa X.2.2.1 σ) lv (pc + 3) (.int v :: st)) : gw X rv we (LC ao aa X.2.2.1 σ) lv pc (.ref (ao 3) :: st) := by
  subst hv
  exact gw_get hC in_Machine 3 (g_lay_obj rfl) rfl 9 (by decide) hl rfl rfl hd k
theorem Cp22 (hC : gC X cc own d L nL ret) {index : Nat} (hl : Cond.fieldLink own index "PatternDesk$Machine" "choices" "I" ∈ g_TB) (hd : decode cc pc = .ok (.putfield index, 3)) {v : Int32} (k : gw X rv we (LC ao aa X.2.2.1 (gF σ 22 v)) lv (pc + 3) st) : gw X rv we (LC ao aa X.2.2.1 σ) lv pc (.int v :: .ref (ao 3) :: st) :=
  gw_put hC in_Machine ty_Machine ty_Machine_ok nm_Machine 3 (g_lay_obj rfl) rfl 9 (by decide) hl rfl rfl (ty := .int) (by decide +kernel) rfl rfl (Nat.le_of_ble_eq_true rfl) _ (g_lay_setO (Nat.le_of_ble_eq_true rfl) rfl) hd k
theorem Cg23 (hC : gC X cc own d L nL ret) {index : Nat} (hl : Cond.fieldLink own index "PatternDesk$Machine" "trailed" "I" ∈ g_TB) (hd : decode cc pc = .ok (.getfield index, 3)) (v : Int32) (hv : σ.1 23 = v) (k : gw X rv we (LC ao aa X.2.2.1 σ) lv (pc + 3) (.int v :: st)) : gw X rv we (LC ao aa X.2.2.1 σ) lv pc (.ref (ao 3) :: st) := by
  subst hv
  exact gw_get hC in_Machine 3 (g_lay_obj rfl) rfl 10 (by decide) hl rfl rfl hd k
theorem Cp23 (hC : gC X cc own d L nL ret) {index : Nat} (hl : Cond.fieldLink own index "PatternDesk$Machine" "trailed" "I" ∈ g_TB) (hd : decode cc pc = .ok (.putfield index, 3)) {v : Int32} (k : gw X rv we (LC ao aa X.2.2.1 (gF σ 23 v)) lv (pc + 3) st) : gw X rv we (LC ao aa X.2.2.1 σ) lv pc (.int v :: .ref (ao 3) :: st) :=
  gw_put hC in_Machine ty_Machine ty_Machine_ok nm_Machine 3 (g_lay_obj rfl) rfl 10 (by decide) hl rfl rfl (ty := .int) (by decide +kernel) rfl rfl (Nat.le_of_ble_eq_true rfl) _ (g_lay_setO (Nat.le_of_ble_eq_true rfl) rfl) hd k
theorem Cg24 (hC : gC X cc own d L nL ret) {index : Nat} (hl : Cond.fieldLink own index "PatternDesk$Machine" "at" "I" ∈ g_TB) (hd : decode cc pc = .ok (.getfield index, 3)) (v : Int32) (hv : σ.1 24 = v) (k : gw X rv we (LC ao aa X.2.2.1 σ) lv (pc + 3) (.int v :: st)) : gw X rv we (LC ao aa X.2.2.1 σ) lv pc (.ref (ao 3) :: st) := by
  subst hv
  exact gw_get hC in_Machine 3 (g_lay_obj rfl) rfl 11 (by decide) hl rfl rfl hd k
theorem Cp24 (hC : gC X cc own d L nL ret) {index : Nat} (hl : Cond.fieldLink own index "PatternDesk$Machine" "at" "I" ∈ g_TB) (hd : decode cc pc = .ok (.putfield index, 3)) {v : Int32} (k : gw X rv we (LC ao aa X.2.2.1 (gF σ 24 v)) lv (pc + 3) st) : gw X rv we (LC ao aa X.2.2.1 σ) lv pc (.int v :: .ref (ao 3) :: st) :=
  gw_put hC in_Machine ty_Machine ty_Machine_ok nm_Machine 3 (g_lay_obj rfl) rfl 11 (by decide) hl rfl rfl (ty := .int) (by decide +kernel) rfl rfl (Nat.le_of_ble_eq_true rfl) _ (g_lay_setO (Nat.le_of_ble_eq_true rfl) rfl) hd k
theorem Cg25 (hC : gC X cc own d L nL ret) {index : Nat} (hl : Cond.fieldLink own index "PatternDesk$Machine" "fuel" "I" ∈ g_TB) (hd : decode cc pc = .ok (.getfield index, 3)) (v : Int32) (hv : σ.1 25 = v) (k : gw X rv we (LC ao aa X.2.2.1 σ) lv (pc + 3) (.int v :: st)) : gw X rv we (LC ao aa X.2.2.1 σ) lv pc (.ref (ao 3) :: st) := by
  subst hv
  exact gw_get hC in_Machine 3 (g_lay_obj rfl) rfl 12 (by decide) hl rfl rfl hd k
theorem Cp25 (hC : gC X cc own d L nL ret) {index : Nat} (hl : Cond.fieldLink own index "PatternDesk$Machine" "fuel" "I" ∈ g_TB) (hd : decode cc pc = .ok (.putfield index, 3)) {v : Int32} (k : gw X rv we (LC ao aa X.2.2.1 (gF σ 25 v)) lv (pc + 3) st) : gw X rv we (LC ao aa X.2.2.1 σ) lv pc (.int v :: .ref (ao 3) :: st) :=
  gw_put hC in_Machine ty_Machine ty_Machine_ok nm_Machine 3 (g_lay_obj rfl) rfl 12 (by decide) hl rfl rfl (ty := .int) (by decide +kernel) rfl rfl (Nat.le_of_ble_eq_true rfl) _ (g_lay_setO (Nat.le_of_ble_eq_true rfl) rfl) hd k
theorem Cg26 (hC : gC X cc own d L nL ret) {index : Nat} (hl : Cond.fieldLink own index "PatternDesk$Machine" "length" "I" ∈ g_TB) (hd : decode cc pc = .ok (.getfield index, 3)) (v : Int32) (hv : σ.1 26 = v) (k : gw X rv we (LC ao aa X.2.2.1 σ) lv (pc + 3) (.int v :: st)) : gw X rv we (LC ao aa X.2.2.1 σ) lv pc (.ref (ao 3) :: st) := by
  subst hv
  exact gw_get hC in_Machine 3 (g_lay_obj rfl) rfl 13 (by decide) hl rfl rfl hd k
theorem Cp26 (hC : gC X cc own d L nL ret) {index : Nat} (hl : Cond.fieldLink own index "PatternDesk$Machine" "length" "I" ∈ g_TB) (hd : decode cc pc = .ok (.putfield index, 3)) {v : Int32} (k : gw X rv we (LC ao aa X.2.2.1 (gF σ 26 v)) lv (pc + 3) st) : gw X rv we (LC ao aa X.2.2.1 σ) lv pc (.int v :: .ref (ao 3) :: st) :=
  gw_put hC in_Machine ty_Machine ty_Machine_ok nm_Machine 3 (g_lay_obj rfl) rfl 13 (by decide) hl rfl rfl (ty := .int) (by decide +kernel) rfl rfl (Nat.le_of_ble_eq_true rfl) _ (g_lay_setO (Nat.le_of_ble_eq_true rfl) rfl) hd k
theorem Cg27 (hC : gC X cc own d L nL ret) {index : Nat} (hl : Cond.fieldLink own index "PatternDesk$Machine" "taken" "I" ∈ g_TB) (hd : decode cc pc = .ok (.getfield index, 3)) (v : Int32) (hv : σ.1 27 = v) (k : gw X rv we (LC ao aa X.2.2.1 σ) lv (pc + 3) (.int v :: st)) : gw X rv we (LC ao aa X.2.2.1 σ) lv pc (.ref (ao 3) :: st) := by
  subst hv
  exact gw_get hC in_Machine 3 (g_lay_obj rfl) rfl 14 (by decide) hl rfl rfl hd k
theorem Cp27 (hC : gC X cc own d L nL ret) {index : Nat} (hl : Cond.fieldLink own index "PatternDesk$Machine" "taken" "I" ∈ g_TB) (hd : decode cc pc = .ok (.putfield index, 3)) {v : Int32} (k : gw X rv we (LC ao aa X.2.2.1 (gF σ 27 v)) lv (pc + 3) st) : gw X rv we (LC ao aa X.2.2.1 σ) lv pc (.int v :: .ref (ao 3) :: st) :=
  gw_put hC in_Machine ty_Machine ty_Machine_ok nm_Machine 3 (g_lay_obj rfl) rfl 14 (by decide) hl rfl rfl (ty := .int) (by decide +kernel) rfl rfl (Nat.le_of_ble_eq_true rfl) _ (g_lay_setO (Nat.le_of_ble_eq_true rfl) rfl) hd k
theorem Cald {j : Nat} (hC : gC X cc own d L nL ret) (hj : j < nAC) {i : Int32} (hi : gIn i (lenC j) = true) (hd : decode cc pc = .ok (.iaload, 1)) (v : Int32) (hv : σ.2 j i.toNatClampNeg = v) (k : gw X rv we (LC ao aa X.2.2.1 σ) lv (pc + 1) (.int v :: st)) : gw X rv we (LC ao aa X.2.2.1 σ) lv pc (.int i :: .ref (aa j) :: st) := by
  subst hv
  exact gw_iald hC (4 + j) (g_lay_arr LC_n hj) hi hd k
theorem Cast {j : Nat} (hC : gC X cc own d L nL ret) (hj : j < nAC) {i x : Int32} (hi : gIn i (lenC j) = true) (hd : decode cc pc = .ok (.iastore, 1)) (k : gw X rv we (LC ao aa X.2.2.1 (gA σ j i.toNatClampNeg x)) lv (pc + 1) st) : gw X rv we (LC ao aa X.2.2.1 σ) lv pc (.int x :: .int i :: .ref (aa j) :: st) :=
  gw_iast hC (4 + j) (g_lay_arr LC_n hj) hi _ (g_lay_setA LC_n hj) hd k
theorem Calen {j : Nat} (hC : gC X cc own d L nL ret) (hj : j < nAC) (hd : decode cc pc = .ok (.arraylength, 1)) (k : gw X rv we (LC ao aa X.2.2.1 σ) lv (pc + 1) (.int (Int32.ofNat (lenC j)) :: st)) : gw X rv we (LC ao aa X.2.2.1 σ) lv pc (.ref (aa j) :: st) :=
  gw_alen hC (4 + j) (g_lay_arr LC_n hj) hd k
theorem Caldj {j : Nat} (hC : gC X cc own d L nL ret) {i : Int32} (hi : (decide (j < nAC) && gIn i (lenC j)) = true) (hd : decode cc pc = .ok (.iaload, 1)) (v : Int32) (hv : σ.2 j i.toNatClampNeg = v) (k : gw X rv we (LC ao aa X.2.2.1 σ) lv (pc + 1) (.int v :: st)) : gw X rv we (LC ao aa X.2.2.1 σ) lv pc (.int i :: .ref (aa j) :: st) :=
  Cald hC (of_decide_eq_true (Bool.and_eq_true_iff.mp hi).1) (Bool.and_eq_true_iff.mp hi).2 hd v hv k
theorem Castj {j : Nat} (hC : gC X cc own d L nL ret) {i x : Int32} (hi : (decide (j < nAC) && gIn i (lenC j)) = true) (hd : decode cc pc = .ok (.iastore, 1)) (k : gw X rv we (LC ao aa X.2.2.1 (gA σ j i.toNatClampNeg x)) lv (pc + 1) st) : gw X rv we (LC ao aa X.2.2.1 σ) lv pc (.int x :: .int i :: .ref (aa j) :: st) :=
  Cast hC (of_decide_eq_true (Bool.and_eq_true_iff.mp hi).1) (Bool.and_eq_true_iff.mp hi).2 hd k
end LayC
