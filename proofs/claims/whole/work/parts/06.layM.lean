abbrev nAM : Nat := 28
def lenM : Nat → Nat
  | 0 => 600
  | 1 => 200
  | 2 => 600
  | 3 => 1300
  | 4 => 1300
  | 5 => 1300
  | 6 => 1300
  | 7 => 1300
  | 8 => 1300
  | 9 => 1300
  | 10 => 1300
  | 11 => 1300
  | 12 => 200
  | 13 => 200
  | 14 => 41
  | 15 => 41
  | 16 => 41
  | 17 => 42
  | 18 => 90000
  | 19 => 90000
  | 20 => 90000
  | 21 => 90000
  | 22 => 90000
  | 23 => 90000
  | 24 => 16000
  | 25 => 16000
  | 26 => 16000
  | 27 => 672000
  | _ => 0
def oM (ao aa : Nat → Nat) (f : Nat → Int32) : va_W := [(ao 0, .inr (4, [.int (f 0), .ref (aa 0), .int (f 1), .ref (aa 1), .int (f 2), .int (f 3), .int (f 4), .int (f 5), .int (f 6), .ref (aa 2), .int (f 7), .int (f 8), .ref (aa 3), .ref (aa 4), .ref (aa 5), .ref (aa 6), .ref (aa 7), .ref (aa 8), .ref (aa 9), .ref (aa 10), .ref (aa 11), .int (f 9), .int (f 10), .ref (aa 12), .ref (aa 13), .int (f 11), .int (f 12), .int (f 13), .int (f 14), .ref (aa 14), .ref (aa 15), .ref (aa 16), .ref (aa 17), .int (f 15), .int (f 16), .int (f 17), .int (f 18), .ref (aa 18), .ref (aa 19), .ref (aa 20), .ref (aa 21), .ref (aa 22), .ref (aa 23), .int (f 19), .ref (aa 24), .ref (aa 25), .ref (aa 26), .ref (aa 27)]))]
abbrev LM (ao aa : Nat → Nat) (cA : ClassId) (σ : g_S) : va_W := g_lay (oM ao aa) nAM lenM aa cA σ
theorem LM_n {ao aa : Nat → Nat} {f : Nat → Int32} : (oM ao aa f).length = 1 := rfl
section LayM
variable {X : g_X} {rv : g_O} {we : va_W} {lv : List (Nat × Value)} {pc : Nat} {st : List Value} {cc : ByteArray} {own : String} {d L nL : Nat} {ret : Option FieldType} {ao aa : Nat → Nat} {σ : g_S}
theorem Mg0 (hC : gC X cc own d L nL ret) {index : Nat} (hl : Cond.fieldLink own index "PatternDeskModel" "thrown" "I" ∈ g_TB) (hd : decode cc pc = .ok (.getfield index, 3)) (v : Int32) (hv : σ.1 0 = v) (k : gw X rv we (LM ao aa X.2.2.1 σ) lv (pc + 3) (.int v :: st)) : gw X rv we (LM ao aa X.2.2.1 σ) lv pc (.ref (ao 0) :: st) := by
  subst hv
  exact gw_get hC in_Mod 0 (g_lay_obj rfl) rfl 0 (by decide) hl rfl rfl hd k
theorem Mp0 (hC : gC X cc own d L nL ret) {index : Nat} (hl : Cond.fieldLink own index "PatternDeskModel" "thrown" "I" ∈ g_TB) (hd : decode cc pc = .ok (.putfield index, 3)) {v : Int32} (k : gw X rv we (LM ao aa X.2.2.1 (gF σ 0 v)) lv (pc + 3) st) : gw X rv we (LM ao aa X.2.2.1 σ) lv pc (.int v :: .ref (ao 0) :: st) :=
  gw_put hC in_Mod ty_Mod ty_Mod_ok nm_Mod 0 (g_lay_obj rfl) rfl 0 (by decide) hl rfl rfl (ty := .int) (by decide +kernel) rfl rfl (Nat.le_of_ble_eq_true rfl) _ (g_lay_setO (Nat.le_of_ble_eq_true rfl) rfl) hd k
theorem Mr_Mod_told (hC : gC X cc own d L nL ret) {index : Nat} (hl : Cond.fieldLink own index "PatternDeskModel" "told" "[I" ∈ g_TB) (hd : decode cc pc = .ok (.getfield index, 3)) (k : gw X rv we (LM ao aa X.2.2.1 σ) lv (pc + 3) (.ref (aa 0) :: st)) : gw X rv we (LM ao aa X.2.2.1 σ) lv pc (.ref (ao 0) :: st) :=
  gw_get hC in_Mod 0 (g_lay_obj rfl) rfl 1 (by decide) hl rfl rfl hd k
theorem Mg1 (hC : gC X cc own d L nL ret) {index : Nat} (hl : Cond.fieldLink own index "PatternDeskModel" "tolds" "I" ∈ g_TB) (hd : decode cc pc = .ok (.getfield index, 3)) (v : Int32) (hv : σ.1 1 = v) (k : gw X rv we (LM ao aa X.2.2.1 σ) lv (pc + 3) (.int v :: st)) : gw X rv we (LM ao aa X.2.2.1 σ) lv pc (.ref (ao 0) :: st) := by
  subst hv
  exact gw_get hC in_Mod 0 (g_lay_obj rfl) rfl 2 (by decide) hl rfl rfl hd k
theorem Mp1 (hC : gC X cc own d L nL ret) {index : Nat} (hl : Cond.fieldLink own index "PatternDeskModel" "tolds" "I" ∈ g_TB) (hd : decode cc pc = .ok (.putfield index, 3)) {v : Int32} (k : gw X rv we (LM ao aa X.2.2.1 (gF σ 1 v)) lv (pc + 3) st) : gw X rv we (LM ao aa X.2.2.1 σ) lv pc (.int v :: .ref (ao 0) :: st) :=
  gw_put hC in_Mod ty_Mod ty_Mod_ok nm_Mod 0 (g_lay_obj rfl) rfl 2 (by decide) hl rfl rfl (ty := .int) (by decide +kernel) rfl rfl (Nat.le_of_ble_eq_true rfl) _ (g_lay_setO (Nat.le_of_ble_eq_true rfl) rfl) hd k
theorem Mr_Mod_pattern (hC : gC X cc own d L nL ret) {index : Nat} (hl : Cond.fieldLink own index "PatternDeskModel" "pattern" "[I" ∈ g_TB) (hd : decode cc pc = .ok (.getfield index, 3)) (k : gw X rv we (LM ao aa X.2.2.1 σ) lv (pc + 3) (.ref (aa 1) :: st)) : gw X rv we (LM ao aa X.2.2.1 σ) lv pc (.ref (ao 0) :: st) :=
  gw_get hC in_Mod 0 (g_lay_obj rfl) rfl 3 (by decide) hl rfl rfl hd k
theorem Mg2 (hC : gC X cc own d L nL ret) {index : Nat} (hl : Cond.fieldLink own index "PatternDeskModel" "size" "I" ∈ g_TB) (hd : decode cc pc = .ok (.getfield index, 3)) (v : Int32) (hv : σ.1 2 = v) (k : gw X rv we (LM ao aa X.2.2.1 σ) lv (pc + 3) (.int v :: st)) : gw X rv we (LM ao aa X.2.2.1 σ) lv pc (.ref (ao 0) :: st) := by
  subst hv
  exact gw_get hC in_Mod 0 (g_lay_obj rfl) rfl 4 (by decide) hl rfl rfl hd k
theorem Mp2 (hC : gC X cc own d L nL ret) {index : Nat} (hl : Cond.fieldLink own index "PatternDeskModel" "size" "I" ∈ g_TB) (hd : decode cc pc = .ok (.putfield index, 3)) {v : Int32} (k : gw X rv we (LM ao aa X.2.2.1 (gF σ 2 v)) lv (pc + 3) st) : gw X rv we (LM ao aa X.2.2.1 σ) lv pc (.int v :: .ref (ao 0) :: st) :=
  gw_put hC in_Mod ty_Mod ty_Mod_ok nm_Mod 0 (g_lay_obj rfl) rfl 4 (by decide) hl rfl rfl (ty := .int) (by decide +kernel) rfl rfl (Nat.le_of_ble_eq_true rfl) _ (g_lay_setO (Nat.le_of_ble_eq_true rfl) rfl) hd k
theorem Mg3 (hC : gC X cc own d L nL ret) {index : Nat} (hl : Cond.fieldLink own index "PatternDeskModel" "ignoring" "Z" ∈ g_TB) (hd : decode cc pc = .ok (.getfield index, 3)) (v : Int32) (hv : σ.1 3 = v) (k : gw X rv we (LM ao aa X.2.2.1 σ) lv (pc + 3) (.int v :: st)) : gw X rv we (LM ao aa X.2.2.1 σ) lv pc (.ref (ao 0) :: st) := by
  subst hv
  exact gw_get hC in_Mod 0 (g_lay_obj rfl) rfl 5 (by decide) hl rfl rfl hd k
theorem Mp3 (hC : gC X cc own d L nL ret) {index : Nat} (hl : Cond.fieldLink own index "PatternDeskModel" "ignoring" "Z" ∈ g_TB) (hd : decode cc pc = .ok (.putfield index, 3)) {v : Int32} (hb : gB v = true) (k : gw X rv we (LM ao aa X.2.2.1 (gF σ 3 v)) lv (pc + 3) st) : gw X rv we (LM ao aa X.2.2.1 σ) lv pc (.int v :: .ref (ao 0) :: st) :=
  gw_put hC in_Mod ty_Mod ty_Mod_ok nm_Mod 0 (g_lay_obj rfl) rfl 5 (by decide) hl rfl rfl (ty := .boolean) (by decide +kernel) (gB_narrow hb) hb (Nat.le_of_ble_eq_true rfl) _ (g_lay_setO (Nat.le_of_ble_eq_true rfl) rfl) hd k
theorem Mg4 (hC : gC X cc own d L nL ret) {index : Nat} (hl : Cond.fieldLink own index "PatternDeskModel" "lines" "Z" ∈ g_TB) (hd : decode cc pc = .ok (.getfield index, 3)) (v : Int32) (hv : σ.1 4 = v) (k : gw X rv we (LM ao aa X.2.2.1 σ) lv (pc + 3) (.int v :: st)) : gw X rv we (LM ao aa X.2.2.1 σ) lv pc (.ref (ao 0) :: st) := by
  subst hv
  exact gw_get hC in_Mod 0 (g_lay_obj rfl) rfl 6 (by decide) hl rfl rfl hd k
theorem Mp4 (hC : gC X cc own d L nL ret) {index : Nat} (hl : Cond.fieldLink own index "PatternDeskModel" "lines" "Z" ∈ g_TB) (hd : decode cc pc = .ok (.putfield index, 3)) {v : Int32} (hb : gB v = true) (k : gw X rv we (LM ao aa X.2.2.1 (gF σ 4 v)) lv (pc + 3) st) : gw X rv we (LM ao aa X.2.2.1 σ) lv pc (.int v :: .ref (ao 0) :: st) :=
  gw_put hC in_Mod ty_Mod ty_Mod_ok nm_Mod 0 (g_lay_obj rfl) rfl 6 (by decide) hl rfl rfl (ty := .boolean) (by decide +kernel) (gB_narrow hb) hb (Nat.le_of_ble_eq_true rfl) _ (g_lay_setO (Nat.le_of_ble_eq_true rfl) rfl) hd k
theorem Mg5 (hC : gC X cc own d L nL ret) {index : Nat} (hl : Cond.fieldLink own index "PatternDeskModel" "there" "Z" ∈ g_TB) (hd : decode cc pc = .ok (.getfield index, 3)) (v : Int32) (hv : σ.1 5 = v) (k : gw X rv we (LM ao aa X.2.2.1 σ) lv (pc + 3) (.int v :: st)) : gw X rv we (LM ao aa X.2.2.1 σ) lv pc (.ref (ao 0) :: st) := by
  subst hv
  exact gw_get hC in_Mod 0 (g_lay_obj rfl) rfl 7 (by decide) hl rfl rfl hd k
theorem Mp5 (hC : gC X cc own d L nL ret) {index : Nat} (hl : Cond.fieldLink own index "PatternDeskModel" "there" "Z" ∈ g_TB) (hd : decode cc pc = .ok (.putfield index, 3)) {v : Int32} (hb : gB v = true) (k : gw X rv we (LM ao aa X.2.2.1 (gF σ 5 v)) lv (pc + 3) st) : gw X rv we (LM ao aa X.2.2.1 σ) lv pc (.int v :: .ref (ao 0) :: st) :=
  gw_put hC in_Mod ty_Mod ty_Mod_ok nm_Mod 0 (g_lay_obj rfl) rfl 7 (by decide) hl rfl rfl (ty := .boolean) (by decide +kernel) (gB_narrow hb) hb (Nat.le_of_ble_eq_true rfl) _ (g_lay_setO (Nat.le_of_ble_eq_true rfl) rfl) hd k
theorem Mg6 (hC : gC X cc own d L nL ret) {index : Nat} (hl : Cond.fieldLink own index "PatternDeskModel" "place" "I" ∈ g_TB) (hd : decode cc pc = .ok (.getfield index, 3)) (v : Int32) (hv : σ.1 6 = v) (k : gw X rv we (LM ao aa X.2.2.1 σ) lv (pc + 3) (.int v :: st)) : gw X rv we (LM ao aa X.2.2.1 σ) lv pc (.ref (ao 0) :: st) := by
  subst hv
  exact gw_get hC in_Mod 0 (g_lay_obj rfl) rfl 8 (by decide) hl rfl rfl hd k
theorem Mp6 (hC : gC X cc own d L nL ret) {index : Nat} (hl : Cond.fieldLink own index "PatternDeskModel" "place" "I" ∈ g_TB) (hd : decode cc pc = .ok (.putfield index, 3)) {v : Int32} (k : gw X rv we (LM ao aa X.2.2.1 (gF σ 6 v)) lv (pc + 3) st) : gw X rv we (LM ao aa X.2.2.1 σ) lv pc (.int v :: .ref (ao 0) :: st) :=
  gw_put hC in_Mod ty_Mod ty_Mod_ok nm_Mod 0 (g_lay_obj rfl) rfl 8 (by decide) hl rfl rfl (ty := .int) (by decide +kernel) rfl rfl (Nat.le_of_ble_eq_true rfl) _ (g_lay_setO (Nat.le_of_ble_eq_true rfl) rfl) hd k
theorem Mr_Mod_text (hC : gC X cc own d L nL ret) {index : Nat} (hl : Cond.fieldLink own index "PatternDeskModel" "text" "[I" ∈ g_TB) (hd : decode cc pc = .ok (.getfield index, 3)) (k : gw X rv we (LM ao aa X.2.2.1 σ) lv (pc + 3) (.ref (aa 2) :: st)) : gw X rv we (LM ao aa X.2.2.1 σ) lv pc (.ref (ao 0) :: st) :=
  gw_get hC in_Mod 0 (g_lay_obj rfl) rfl 9 (by decide) hl rfl rfl hd k
theorem Mg7 (hC : gC X cc own d L nL ret) {index : Nat} (hl : Cond.fieldLink own index "PatternDeskModel" "length" "I" ∈ g_TB) (hd : decode cc pc = .ok (.getfield index, 3)) (v : Int32) (hv : σ.1 7 = v) (k : gw X rv we (LM ao aa X.2.2.1 σ) lv (pc + 3) (.int v :: st)) : gw X rv we (LM ao aa X.2.2.1 σ) lv pc (.ref (ao 0) :: st) := by
  subst hv
  exact gw_get hC in_Mod 0 (g_lay_obj rfl) rfl 10 (by decide) hl rfl rfl hd k
theorem Mp7 (hC : gC X cc own d L nL ret) {index : Nat} (hl : Cond.fieldLink own index "PatternDeskModel" "length" "I" ∈ g_TB) (hd : decode cc pc = .ok (.putfield index, 3)) {v : Int32} (k : gw X rv we (LM ao aa X.2.2.1 (gF σ 7 v)) lv (pc + 3) st) : gw X rv we (LM ao aa X.2.2.1 σ) lv pc (.int v :: .ref (ao 0) :: st) :=
  gw_put hC in_Mod ty_Mod ty_Mod_ok nm_Mod 0 (g_lay_obj rfl) rfl 10 (by decide) hl rfl rfl (ty := .int) (by decide +kernel) rfl rfl (Nat.le_of_ble_eq_true rfl) _ (g_lay_setO (Nat.le_of_ble_eq_true rfl) rfl) hd k
theorem Mg8 (hC : gC X cc own d L nL ret) {index : Nat} (hl : Cond.fieldLink own index "PatternDeskModel" "nodes" "I" ∈ g_TB) (hd : decode cc pc = .ok (.getfield index, 3)) (v : Int32) (hv : σ.1 8 = v) (k : gw X rv we (LM ao aa X.2.2.1 σ) lv (pc + 3) (.int v :: st)) : gw X rv we (LM ao aa X.2.2.1 σ) lv pc (.ref (ao 0) :: st) := by
  subst hv
  exact gw_get hC in_Mod 0 (g_lay_obj rfl) rfl 11 (by decide) hl rfl rfl hd k
theorem Mp8 (hC : gC X cc own d L nL ret) {index : Nat} (hl : Cond.fieldLink own index "PatternDeskModel" "nodes" "I" ∈ g_TB) (hd : decode cc pc = .ok (.putfield index, 3)) {v : Int32} (k : gw X rv we (LM ao aa X.2.2.1 (gF σ 8 v)) lv (pc + 3) st) : gw X rv we (LM ao aa X.2.2.1 σ) lv pc (.int v :: .ref (ao 0) :: st) :=
  gw_put hC in_Mod ty_Mod ty_Mod_ok nm_Mod 0 (g_lay_obj rfl) rfl 11 (by decide) hl rfl rfl (ty := .int) (by decide +kernel) rfl rfl (Nat.le_of_ble_eq_true rfl) _ (g_lay_setO (Nat.le_of_ble_eq_true rfl) rfl) hd k
theorem Mr_Mod_kind (hC : gC X cc own d L nL ret) {index : Nat} (hl : Cond.fieldLink own index "PatternDeskModel" "kind" "[I" ∈ g_TB) (hd : decode cc pc = .ok (.getfield index, 3)) (k : gw X rv we (LM ao aa X.2.2.1 σ) lv (pc + 3) (.ref (aa 3) :: st)) : gw X rv we (LM ao aa X.2.2.1 σ) lv pc (.ref (ao 0) :: st) :=
  gw_get hC in_Mod 0 (g_lay_obj rfl) rfl 12 (by decide) hl rfl rfl hd k
theorem Mr_Mod_a (hC : gC X cc own d L nL ret) {index : Nat} (hl : Cond.fieldLink own index "PatternDeskModel" "a" "[I" ∈ g_TB) (hd : decode cc pc = .ok (.getfield index, 3)) (k : gw X rv we (LM ao aa X.2.2.1 σ) lv (pc + 3) (.ref (aa 4) :: st)) : gw X rv we (LM ao aa X.2.2.1 σ) lv pc (.ref (ao 0) :: st) :=
  gw_get hC in_Mod 0 (g_lay_obj rfl) rfl 13 (by decide) hl rfl rfl hd k
theorem Mr_Mod_b (hC : gC X cc own d L nL ret) {index : Nat} (hl : Cond.fieldLink own index "PatternDeskModel" "b" "[I" ∈ g_TB) (hd : decode cc pc = .ok (.getfield index, 3)) (k : gw X rv we (LM ao aa X.2.2.1 σ) lv (pc + 3) (.ref (aa 5) :: st)) : gw X rv we (LM ao aa X.2.2.1 σ) lv pc (.ref (ao 0) :: st) :=
  gw_get hC in_Mod 0 (g_lay_obj rfl) rfl 14 (by decide) hl rfl rfl hd k
theorem Mr_Mod_c (hC : gC X cc own d L nL ret) {index : Nat} (hl : Cond.fieldLink own index "PatternDeskModel" "c" "[I" ∈ g_TB) (hd : decode cc pc = .ok (.getfield index, 3)) (k : gw X rv we (LM ao aa X.2.2.1 σ) lv (pc + 3) (.ref (aa 6) :: st)) : gw X rv we (LM ao aa X.2.2.1 σ) lv pc (.ref (ao 0) :: st) :=
  gw_get hC in_Mod 0 (g_lay_obj rfl) rfl 15 (by decide) hl rfl rfl hd k
theorem Mr_Mod_first (hC : gC X cc own d L nL ret) {index : Nat} (hl : Cond.fieldLink own index "PatternDeskModel" "first" "[I" ∈ g_TB) (hd : decode cc pc = .ok (.getfield index, 3)) (k : gw X rv we (LM ao aa X.2.2.1 σ) lv (pc + 3) (.ref (aa 7) :: st)) : gw X rv we (LM ao aa X.2.2.1 σ) lv pc (.ref (ao 0) :: st) :=
  gw_get hC in_Mod 0 (g_lay_obj rfl) rfl 16 (by decide) hl rfl rfl hd k
theorem Mr_Mod_latest (hC : gC X cc own d L nL ret) {index : Nat} (hl : Cond.fieldLink own index "PatternDeskModel" "latest" "[I" ∈ g_TB) (hd : decode cc pc = .ok (.getfield index, 3)) (k : gw X rv we (LM ao aa X.2.2.1 σ) lv (pc + 3) (.ref (aa 8) :: st)) : gw X rv we (LM ao aa X.2.2.1 σ) lv pc (.ref (ao 0) :: st) :=
  gw_get hC in_Mod 0 (g_lay_obj rfl) rfl 17 (by decide) hl rfl rfl hd k
theorem Mr_Mod_behind (hC : gC X cc own d L nL ret) {index : Nat} (hl : Cond.fieldLink own index "PatternDeskModel" "behind" "[I" ∈ g_TB) (hd : decode cc pc = .ok (.getfield index, 3)) (k : gw X rv we (LM ao aa X.2.2.1 σ) lv (pc + 3) (.ref (aa 9) :: st)) : gw X rv we (LM ao aa X.2.2.1 σ) lv pc (.ref (ao 0) :: st) :=
  gw_get hC in_Mod 0 (g_lay_obj rfl) rfl 18 (by decide) hl rfl rfl hd k
theorem Mr_Mod_groupFrom (hC : gC X cc own d L nL ret) {index : Nat} (hl : Cond.fieldLink own index "PatternDeskModel" "groupFrom" "[I" ∈ g_TB) (hd : decode cc pc = .ok (.getfield index, 3)) (k : gw X rv we (LM ao aa X.2.2.1 σ) lv (pc + 3) (.ref (aa 10) :: st)) : gw X rv we (LM ao aa X.2.2.1 σ) lv pc (.ref (ao 0) :: st) :=
  gw_get hC in_Mod 0 (g_lay_obj rfl) rfl 19 (by decide) hl rfl rfl hd k
theorem Mr_Mod_groupTo (hC : gC X cc own d L nL ret) {index : Nat} (hl : Cond.fieldLink own index "PatternDeskModel" "groupTo" "[I" ∈ g_TB) (hd : decode cc pc = .ok (.getfield index, 3)) (k : gw X rv we (LM ao aa X.2.2.1 σ) lv (pc + 3) (.ref (aa 11) :: st)) : gw X rv we (LM ao aa X.2.2.1 σ) lv pc (.ref (ao 0) :: st) :=
  gw_get hC in_Mod 0 (g_lay_obj rfl) rfl 20 (by decide) hl rfl rfl hd k
theorem Mg9 (hC : gC X cc own d L nL ret) {index : Nat} (hl : Cond.fieldLink own index "PatternDeskModel" "groups" "I" ∈ g_TB) (hd : decode cc pc = .ok (.getfield index, 3)) (v : Int32) (hv : σ.1 9 = v) (k : gw X rv we (LM ao aa X.2.2.1 σ) lv (pc + 3) (.int v :: st)) : gw X rv we (LM ao aa X.2.2.1 σ) lv pc (.ref (ao 0) :: st) := by
  subst hv
  exact gw_get hC in_Mod 0 (g_lay_obj rfl) rfl 21 (by decide) hl rfl rfl hd k
theorem Mp9 (hC : gC X cc own d L nL ret) {index : Nat} (hl : Cond.fieldLink own index "PatternDeskModel" "groups" "I" ∈ g_TB) (hd : decode cc pc = .ok (.putfield index, 3)) {v : Int32} (k : gw X rv we (LM ao aa X.2.2.1 (gF σ 9 v)) lv (pc + 3) st) : gw X rv we (LM ao aa X.2.2.1 σ) lv pc (.int v :: .ref (ao 0) :: st) :=
  gw_put hC in_Mod ty_Mod ty_Mod_ok nm_Mod 0 (g_lay_obj rfl) rfl 21 (by decide) hl rfl rfl (ty := .int) (by decide +kernel) rfl rfl (Nat.le_of_ble_eq_true rfl) _ (g_lay_setO (Nat.le_of_ble_eq_true rfl) rfl) hd k
theorem Mg10 (hC : gC X cc own d L nL ret) {index : Nat} (hl : Cond.fieldLink own index "PatternDeskModel" "members" "I" ∈ g_TB) (hd : decode cc pc = .ok (.getfield index, 3)) (v : Int32) (hv : σ.1 10 = v) (k : gw X rv we (LM ao aa X.2.2.1 σ) lv (pc + 3) (.int v :: st)) : gw X rv we (LM ao aa X.2.2.1 σ) lv pc (.ref (ao 0) :: st) := by
  subst hv
  exact gw_get hC in_Mod 0 (g_lay_obj rfl) rfl 22 (by decide) hl rfl rfl hd k
theorem Mp10 (hC : gC X cc own d L nL ret) {index : Nat} (hl : Cond.fieldLink own index "PatternDeskModel" "members" "I" ∈ g_TB) (hd : decode cc pc = .ok (.putfield index, 3)) {v : Int32} (k : gw X rv we (LM ao aa X.2.2.1 (gF σ 10 v)) lv (pc + 3) st) : gw X rv we (LM ao aa X.2.2.1 σ) lv pc (.int v :: .ref (ao 0) :: st) :=
  gw_put hC in_Mod ty_Mod ty_Mod_ok nm_Mod 0 (g_lay_obj rfl) rfl 22 (by decide) hl rfl rfl (ty := .int) (by decide +kernel) rfl rfl (Nat.le_of_ble_eq_true rfl) _ (g_lay_setO (Nat.le_of_ble_eq_true rfl) rfl) hd k
theorem Mr_Mod_low (hC : gC X cc own d L nL ret) {index : Nat} (hl : Cond.fieldLink own index "PatternDeskModel" "low" "[I" ∈ g_TB) (hd : decode cc pc = .ok (.getfield index, 3)) (k : gw X rv we (LM ao aa X.2.2.1 σ) lv (pc + 3) (.ref (aa 12) :: st)) : gw X rv we (LM ao aa X.2.2.1 σ) lv pc (.ref (ao 0) :: st) :=
  gw_get hC in_Mod 0 (g_lay_obj rfl) rfl 23 (by decide) hl rfl rfl hd k
theorem Mr_Mod_high (hC : gC X cc own d L nL ret) {index : Nat} (hl : Cond.fieldLink own index "PatternDeskModel" "high" "[I" ∈ g_TB) (hd : decode cc pc = .ok (.getfield index, 3)) (k : gw X rv we (LM ao aa X.2.2.1 σ) lv (pc + 3) (.ref (aa 13) :: st)) : gw X rv we (LM ao aa X.2.2.1 σ) lv pc (.ref (ao 0) :: st) :=
  gw_get hC in_Mod 0 (g_lay_obj rfl) rfl 24 (by decide) hl rfl rfl hd k
theorem Mg11 (hC : gC X cc own d L nL ret) {index : Nat} (hl : Cond.fieldLink own index "PatternDeskModel" "at" "I" ∈ g_TB) (hd : decode cc pc = .ok (.getfield index, 3)) (v : Int32) (hv : σ.1 11 = v) (k : gw X rv we (LM ao aa X.2.2.1 σ) lv (pc + 3) (.int v :: st)) : gw X rv we (LM ao aa X.2.2.1 σ) lv pc (.ref (ao 0) :: st) := by
  subst hv
  exact gw_get hC in_Mod 0 (g_lay_obj rfl) rfl 25 (by decide) hl rfl rfl hd k
theorem Mp11 (hC : gC X cc own d L nL ret) {index : Nat} (hl : Cond.fieldLink own index "PatternDeskModel" "at" "I" ∈ g_TB) (hd : decode cc pc = .ok (.putfield index, 3)) {v : Int32} (k : gw X rv we (LM ao aa X.2.2.1 (gF σ 11 v)) lv (pc + 3) st) : gw X rv we (LM ao aa X.2.2.1 σ) lv pc (.int v :: .ref (ao 0) :: st) :=
  gw_put hC in_Mod ty_Mod ty_Mod_ok nm_Mod 0 (g_lay_obj rfl) rfl 25 (by decide) hl rfl rfl (ty := .int) (by decide +kernel) rfl rfl (Nat.le_of_ble_eq_true rfl) _ (g_lay_setO (Nat.le_of_ble_eq_true rfl) rfl) hd k
theorem Mg12 (hC : gC X cc own d L nL ret) {index : Nat} (hl : Cond.fieldLink own index "PatternDeskModel" "wrong" "I" ∈ g_TB) (hd : decode cc pc = .ok (.getfield index, 3)) (v : Int32) (hv : σ.1 12 = v) (k : gw X rv we (LM ao aa X.2.2.1 σ) lv (pc + 3) (.int v :: st)) : gw X rv we (LM ao aa X.2.2.1 σ) lv pc (.ref (ao 0) :: st) := by
  subst hv
  exact gw_get hC in_Mod 0 (g_lay_obj rfl) rfl 26 (by decide) hl rfl rfl hd k
theorem Mp12 (hC : gC X cc own d L nL ret) {index : Nat} (hl : Cond.fieldLink own index "PatternDeskModel" "wrong" "I" ∈ g_TB) (hd : decode cc pc = .ok (.putfield index, 3)) {v : Int32} (k : gw X rv we (LM ao aa X.2.2.1 (gF σ 12 v)) lv (pc + 3) st) : gw X rv we (LM ao aa X.2.2.1 σ) lv pc (.int v :: .ref (ao 0) :: st) :=
  gw_put hC in_Mod ty_Mod ty_Mod_ok nm_Mod 0 (g_lay_obj rfl) rfl 26 (by decide) hl rfl rfl (ty := .int) (by decide +kernel) rfl rfl (Nat.le_of_ble_eq_true rfl) _ (g_lay_setO (Nat.le_of_ble_eq_true rfl) rfl) hd k
theorem Mg13 (hC : gC X cc own d L nL ret) {index : Nat} (hl : Cond.fieldLink own index "PatternDeskModel" "escaped" "I" ∈ g_TB) (hd : decode cc pc = .ok (.getfield index, 3)) (v : Int32) (hv : σ.1 13 = v) (k : gw X rv we (LM ao aa X.2.2.1 σ) lv (pc + 3) (.int v :: st)) : gw X rv we (LM ao aa X.2.2.1 σ) lv pc (.ref (ao 0) :: st) := by
  subst hv
  exact gw_get hC in_Mod 0 (g_lay_obj rfl) rfl 27 (by decide) hl rfl rfl hd k
theorem Mp13 (hC : gC X cc own d L nL ret) {index : Nat} (hl : Cond.fieldLink own index "PatternDeskModel" "escaped" "I" ∈ g_TB) (hd : decode cc pc = .ok (.putfield index, 3)) {v : Int32} (k : gw X rv we (LM ao aa X.2.2.1 (gF σ 13 v)) lv (pc + 3) st) : gw X rv we (LM ao aa X.2.2.1 σ) lv pc (.int v :: .ref (ao 0) :: st) :=
  gw_put hC in_Mod ty_Mod ty_Mod_ok nm_Mod 0 (g_lay_obj rfl) rfl 27 (by decide) hl rfl rfl (ty := .int) (by decide +kernel) rfl rfl (Nat.le_of_ble_eq_true rfl) _ (g_lay_setO (Nat.le_of_ble_eq_true rfl) rfl) hd k
theorem Mg14 (hC : gC X cc own d L nL ret) {index : Nat} (hl : Cond.fieldLink own index "PatternDeskModel" "depth" "I" ∈ g_TB) (hd : decode cc pc = .ok (.getfield index, 3)) (v : Int32) (hv : σ.1 14 = v) (k : gw X rv we (LM ao aa X.2.2.1 σ) lv (pc + 3) (.int v :: st)) : gw X rv we (LM ao aa X.2.2.1 σ) lv pc (.ref (ao 0) :: st) := by
  subst hv
  exact gw_get hC in_Mod 0 (g_lay_obj rfl) rfl 28 (by decide) hl rfl rfl hd k
theorem Mp14 (hC : gC X cc own d L nL ret) {index : Nat} (hl : Cond.fieldLink own index "PatternDeskModel" "depth" "I" ∈ g_TB) (hd : decode cc pc = .ok (.putfield index, 3)) {v : Int32} (k : gw X rv we (LM ao aa X.2.2.1 (gF σ 14 v)) lv (pc + 3) st) : gw X rv we (LM ao aa X.2.2.1 σ) lv pc (.int v :: .ref (ao 0) :: st) :=
  gw_put hC in_Mod ty_Mod ty_Mod_ok nm_Mod 0 (g_lay_obj rfl) rfl 28 (by decide) hl rfl rfl (ty := .int) (by decide +kernel) rfl rfl (Nat.le_of_ble_eq_true rfl) _ (g_lay_setO (Nat.le_of_ble_eq_true rfl) rfl) hd k
theorem Mr_Mod_open (hC : gC X cc own d L nL ret) {index : Nat} (hl : Cond.fieldLink own index "PatternDeskModel" "open" "[I" ∈ g_TB) (hd : decode cc pc = .ok (.getfield index, 3)) (k : gw X rv we (LM ao aa X.2.2.1 σ) lv (pc + 3) (.ref (aa 14) :: st)) : gw X rv we (LM ao aa X.2.2.1 σ) lv pc (.ref (ao 0) :: st) :=
  gw_get hC in_Mod 0 (g_lay_obj rfl) rfl 29 (by decide) hl rfl rfl hd k
theorem Mr_Mod_choice (hC : gC X cc own d L nL ret) {index : Nat} (hl : Cond.fieldLink own index "PatternDeskModel" "choice" "[I" ∈ g_TB) (hd : decode cc pc = .ok (.getfield index, 3)) (k : gw X rv we (LM ao aa X.2.2.1 σ) lv (pc + 3) (.ref (aa 15) :: st)) : gw X rv we (LM ao aa X.2.2.1 σ) lv pc (.ref (ao 0) :: st) :=
  gw_get hC in_Mod 0 (g_lay_obj rfl) rfl 30 (by decide) hl rfl rfl hd k
theorem Mr_Mod_alternative (hC : gC X cc own d L nL ret) {index : Nat} (hl : Cond.fieldLink own index "PatternDeskModel" "alternative" "[I" ∈ g_TB) (hd : decode cc pc = .ok (.getfield index, 3)) (k : gw X rv we (LM ao aa X.2.2.1 σ) lv (pc + 3) (.ref (aa 16) :: st)) : gw X rv we (LM ao aa X.2.2.1 σ) lv pc (.ref (ao 0) :: st) :=
  gw_get hC in_Mod 0 (g_lay_obj rfl) rfl 31 (by decide) hl rfl rfl hd k
theorem Mr_Mod_group (hC : gC X cc own d L nL ret) {index : Nat} (hl : Cond.fieldLink own index "PatternDeskModel" "group" "[I" ∈ g_TB) (hd : decode cc pc = .ok (.getfield index, 3)) (k : gw X rv we (LM ao aa X.2.2.1 σ) lv (pc + 3) (.ref (aa 17) :: st)) : gw X rv we (LM ao aa X.2.2.1 σ) lv pc (.ref (ao 0) :: st) :=
  gw_get hC in_Mod 0 (g_lay_obj rfl) rfl 32 (by decide) hl rfl rfl hd k
theorem Mg15 (hC : gC X cc own d L nL ret) {index : Nat} (hl : Cond.fieldLink own index "PatternDeskModel" "result" "Z" ∈ g_TB) (hd : decode cc pc = .ok (.getfield index, 3)) (v : Int32) (hv : σ.1 15 = v) (k : gw X rv we (LM ao aa X.2.2.1 σ) lv (pc + 3) (.int v :: st)) : gw X rv we (LM ao aa X.2.2.1 σ) lv pc (.ref (ao 0) :: st) := by
  subst hv
  exact gw_get hC in_Mod 0 (g_lay_obj rfl) rfl 33 (by decide) hl rfl rfl hd k
theorem Mp15 (hC : gC X cc own d L nL ret) {index : Nat} (hl : Cond.fieldLink own index "PatternDeskModel" "result" "Z" ∈ g_TB) (hd : decode cc pc = .ok (.putfield index, 3)) {v : Int32} (hb : gB v = true) (k : gw X rv we (LM ao aa X.2.2.1 (gF σ 15 v)) lv (pc + 3) st) : gw X rv we (LM ao aa X.2.2.1 σ) lv pc (.int v :: .ref (ao 0) :: st) :=
  gw_put hC in_Mod ty_Mod ty_Mod_ok nm_Mod 0 (g_lay_obj rfl) rfl 33 (by decide) hl rfl rfl (ty := .boolean) (by decide +kernel) (gB_narrow hb) hb (Nat.le_of_ble_eq_true rfl) _ (g_lay_setO (Nat.le_of_ble_eq_true rfl) rfl) hd k
theorem Mg16 (hC : gC X cc own d L nL ret) {index : Nat} (hl : Cond.fieldLink own index "PatternDeskModel" "steps" "I" ∈ g_TB) (hd : decode cc pc = .ok (.getfield index, 3)) (v : Int32) (hv : σ.1 16 = v) (k : gw X rv we (LM ao aa X.2.2.1 σ) lv (pc + 3) (.int v :: st)) : gw X rv we (LM ao aa X.2.2.1 σ) lv pc (.ref (ao 0) :: st) := by
  subst hv
  exact gw_get hC in_Mod 0 (g_lay_obj rfl) rfl 34 (by decide) hl rfl rfl hd k
theorem Mp16 (hC : gC X cc own d L nL ret) {index : Nat} (hl : Cond.fieldLink own index "PatternDeskModel" "steps" "I" ∈ g_TB) (hd : decode cc pc = .ok (.putfield index, 3)) {v : Int32} (k : gw X rv we (LM ao aa X.2.2.1 (gF σ 16 v)) lv (pc + 3) st) : gw X rv we (LM ao aa X.2.2.1 σ) lv pc (.int v :: .ref (ao 0) :: st) :=
  gw_put hC in_Mod ty_Mod ty_Mod_ok nm_Mod 0 (g_lay_obj rfl) rfl 34 (by decide) hl rfl rfl (ty := .int) (by decide +kernel) rfl rfl (Nat.le_of_ble_eq_true rfl) _ (g_lay_setO (Nat.le_of_ble_eq_true rfl) rfl) hd k
theorem Mg17 (hC : gC X cc own d L nL ret) {index : Nat} (hl : Cond.fieldLink own index "PatternDeskModel" "fuel" "I" ∈ g_TB) (hd : decode cc pc = .ok (.getfield index, 3)) (v : Int32) (hv : σ.1 17 = v) (k : gw X rv we (LM ao aa X.2.2.1 σ) lv (pc + 3) (.int v :: st)) : gw X rv we (LM ao aa X.2.2.1 σ) lv pc (.ref (ao 0) :: st) := by
  subst hv
  exact gw_get hC in_Mod 0 (g_lay_obj rfl) rfl 35 (by decide) hl rfl rfl hd k
theorem Mp17 (hC : gC X cc own d L nL ret) {index : Nat} (hl : Cond.fieldLink own index "PatternDeskModel" "fuel" "I" ∈ g_TB) (hd : decode cc pc = .ok (.putfield index, 3)) {v : Int32} (k : gw X rv we (LM ao aa X.2.2.1 (gF σ 17 v)) lv (pc + 3) st) : gw X rv we (LM ao aa X.2.2.1 σ) lv pc (.int v :: .ref (ao 0) :: st) :=
  gw_put hC in_Mod ty_Mod ty_Mod_ok nm_Mod 0 (g_lay_obj rfl) rfl 35 (by decide) hl rfl rfl (ty := .int) (by decide +kernel) rfl rfl (Nat.le_of_ble_eq_true rfl) _ (g_lay_setO (Nat.le_of_ble_eq_true rfl) rfl) hd k
theorem Mg18 (hC : gC X cc own d L nL ret) {index : Nat} (hl : Cond.fieldLink own index "PatternDeskModel" "rows" "I" ∈ g_TB) (hd : decode cc pc = .ok (.getfield index, 3)) (v : Int32) (hv : σ.1 18 = v) (k : gw X rv we (LM ao aa X.2.2.1 σ) lv (pc + 3) (.int v :: st)) : gw X rv we (LM ao aa X.2.2.1 σ) lv pc (.ref (ao 0) :: st) := by
  subst hv
  exact gw_get hC in_Mod 0 (g_lay_obj rfl) rfl 36 (by decide) hl rfl rfl hd k
theorem Mp18 (hC : gC X cc own d L nL ret) {index : Nat} (hl : Cond.fieldLink own index "PatternDeskModel" "rows" "I" ∈ g_TB) (hd : decode cc pc = .ok (.putfield index, 3)) {v : Int32} (k : gw X rv we (LM ao aa X.2.2.1 (gF σ 18 v)) lv (pc + 3) st) : gw X rv we (LM ao aa X.2.2.1 σ) lv pc (.int v :: .ref (ao 0) :: st) :=
  gw_put hC in_Mod ty_Mod ty_Mod_ok nm_Mod 0 (g_lay_obj rfl) rfl 36 (by decide) hl rfl rfl (ty := .int) (by decide +kernel) rfl rfl (Nat.le_of_ble_eq_true rfl) _ (g_lay_setO (Nat.le_of_ble_eq_true rfl) rfl) hd k
theorem Mr_Mod_todo (hC : gC X cc own d L nL ret) {index : Nat} (hl : Cond.fieldLink own index "PatternDeskModel" "todo" "[I" ∈ g_TB) (hd : decode cc pc = .ok (.getfield index, 3)) (k : gw X rv we (LM ao aa X.2.2.1 σ) lv (pc + 3) (.ref (aa 18) :: st)) : gw X rv we (LM ao aa X.2.2.1 σ) lv pc (.ref (ao 0) :: st) :=
  gw_get hC in_Mod 0 (g_lay_obj rfl) rfl 37 (by decide) hl rfl rfl hd k
theorem Mr_Mod_which (hC : gC X cc own d L nL ret) {index : Nat} (hl : Cond.fieldLink own index "PatternDeskModel" "which" "[I" ∈ g_TB) (hd : decode cc pc = .ok (.getfield index, 3)) (k : gw X rv we (LM ao aa X.2.2.1 σ) lv (pc + 3) (.ref (aa 19) :: st)) : gw X rv we (LM ao aa X.2.2.1 σ) lv pc (.ref (ao 0) :: st) :=
  gw_get hC in_Mod 0 (g_lay_obj rfl) rfl 38 (by decide) hl rfl rfl hd k
theorem Mr_Mod_next (hC : gC X cc own d L nL ret) {index : Nat} (hl : Cond.fieldLink own index "PatternDeskModel" "next" "[I" ∈ g_TB) (hd : decode cc pc = .ok (.getfield index, 3)) (k : gw X rv we (LM ao aa X.2.2.1 σ) lv (pc + 3) (.ref (aa 20) :: st)) : gw X rv we (LM ao aa X.2.2.1 σ) lv pc (.ref (ao 0) :: st) :=
  gw_get hC in_Mod 0 (g_lay_obj rfl) rfl 39 (by decide) hl rfl rfl hd k
theorem Mr_Mod_x (hC : gC X cc own d L nL ret) {index : Nat} (hl : Cond.fieldLink own index "PatternDeskModel" "x" "[I" ∈ g_TB) (hd : decode cc pc = .ok (.getfield index, 3)) (k : gw X rv we (LM ao aa X.2.2.1 σ) lv (pc + 3) (.ref (aa 21) :: st)) : gw X rv we (LM ao aa X.2.2.1 σ) lv pc (.ref (ao 0) :: st) :=
  gw_get hC in_Mod 0 (g_lay_obj rfl) rfl 40 (by decide) hl rfl rfl hd k
theorem Mr_Mod_y (hC : gC X cc own d L nL ret) {index : Nat} (hl : Cond.fieldLink own index "PatternDeskModel" "y" "[I" ∈ g_TB) (hd : decode cc pc = .ok (.getfield index, 3)) (k : gw X rv we (LM ao aa X.2.2.1 σ) lv (pc + 3) (.ref (aa 22) :: st)) : gw X rv we (LM ao aa X.2.2.1 σ) lv pc (.ref (ao 0) :: st) :=
  gw_get hC in_Mod 0 (g_lay_obj rfl) rfl 41 (by decide) hl rfl rfl hd k
theorem Mr_Mod_z (hC : gC X cc own d L nL ret) {index : Nat} (hl : Cond.fieldLink own index "PatternDeskModel" "z" "[I" ∈ g_TB) (hd : decode cc pc = .ok (.getfield index, 3)) (k : gw X rv we (LM ao aa X.2.2.1 σ) lv (pc + 3) (.ref (aa 23) :: st)) : gw X rv we (LM ao aa X.2.2.1 σ) lv pc (.ref (ao 0) :: st) :=
  gw_get hC in_Mod 0 (g_lay_obj rfl) rfl 42 (by decide) hl rfl rfl hd k
theorem Mg19 (hC : gC X cc own d L nL ret) {index : Nat} (hl : Cond.fieldLink own index "PatternDeskModel" "pile" "I" ∈ g_TB) (hd : decode cc pc = .ok (.getfield index, 3)) (v : Int32) (hv : σ.1 19 = v) (k : gw X rv we (LM ao aa X.2.2.1 σ) lv (pc + 3) (.int v :: st)) : gw X rv we (LM ao aa X.2.2.1 σ) lv pc (.ref (ao 0) :: st) := by
  subst hv
  exact gw_get hC in_Mod 0 (g_lay_obj rfl) rfl 43 (by decide) hl rfl rfl hd k
theorem Mp19 (hC : gC X cc own d L nL ret) {index : Nat} (hl : Cond.fieldLink own index "PatternDeskModel" "pile" "I" ∈ g_TB) (hd : decode cc pc = .ok (.putfield index, 3)) {v : Int32} (k : gw X rv we (LM ao aa X.2.2.1 (gF σ 19 v)) lv (pc + 3) st) : gw X rv we (LM ao aa X.2.2.1 σ) lv pc (.int v :: .ref (ao 0) :: st) :=
  gw_put hC in_Mod ty_Mod ty_Mod_ok nm_Mod 0 (g_lay_obj rfl) rfl 43 (by decide) hl rfl rfl (ty := .int) (by decide +kernel) rfl rfl (Nat.le_of_ble_eq_true rfl) _ (g_lay_setO (Nat.le_of_ble_eq_true rfl) rfl) hd k
theorem Mr_Mod_pileRow (hC : gC X cc own d L nL ret) {index : Nat} (hl : Cond.fieldLink own index "PatternDeskModel" "pileRow" "[I" ∈ g_TB) (hd : decode cc pc = .ok (.getfield index, 3)) (k : gw X rv we (LM ao aa X.2.2.1 σ) lv (pc + 3) (.ref (aa 24) :: st)) : gw X rv we (LM ao aa X.2.2.1 σ) lv pc (.ref (ao 0) :: st) :=
  gw_get hC in_Mod 0 (g_lay_obj rfl) rfl 44 (by decide) hl rfl rfl hd k
theorem Mr_Mod_pileAt (hC : gC X cc own d L nL ret) {index : Nat} (hl : Cond.fieldLink own index "PatternDeskModel" "pileAt" "[I" ∈ g_TB) (hd : decode cc pc = .ok (.getfield index, 3)) (k : gw X rv we (LM ao aa X.2.2.1 σ) lv (pc + 3) (.ref (aa 25) :: st)) : gw X rv we (LM ao aa X.2.2.1 σ) lv pc (.ref (ao 0) :: st) :=
  gw_get hC in_Mod 0 (g_lay_obj rfl) rfl 45 (by decide) hl rfl rfl hd k
theorem Mr_Mod_pileLook (hC : gC X cc own d L nL ret) {index : Nat} (hl : Cond.fieldLink own index "PatternDeskModel" "pileLook" "[I" ∈ g_TB) (hd : decode cc pc = .ok (.getfield index, 3)) (k : gw X rv we (LM ao aa X.2.2.1 σ) lv (pc + 3) (.ref (aa 26) :: st)) : gw X rv we (LM ao aa X.2.2.1 σ) lv pc (.ref (ao 0) :: st) :=
  gw_get hC in_Mod 0 (g_lay_obj rfl) rfl 46 (by decide) hl rfl rfl hd k
theorem Mr_Mod_pileGroup (hC : gC X cc own d L nL ret) {index : Nat} (hl : Cond.fieldLink own index "PatternDeskModel" "pileGroup" "[I" ∈ g_TB) (hd : decode cc pc = .ok (.getfield index, 3)) (k : gw X rv we (LM ao aa X.2.2.1 σ) lv (pc + 3) (.ref (aa 27) :: st)) : gw X rv we (LM ao aa X.2.2.1 σ) lv pc (.ref (ao 0) :: st) :=
  gw_get hC in_Mod 0 (g_lay_obj rfl) rfl 47 (by decide) hl rfl rfl hd k
theorem Mald {j : Nat} (hC : gC X cc own d L nL ret) (hj : j < nAM) {i : Int32} (hi : gIn i (lenM j) = true) (hd : decode cc pc = .ok (.iaload, 1)) (v : Int32) (hv : σ.2 j i.toNatClampNeg = v) (k : gw X rv we (LM ao aa X.2.2.1 σ) lv (pc + 1) (.int v :: st)) : gw X rv we (LM ao aa X.2.2.1 σ) lv pc (.int i :: .ref (aa j) :: st) := by
  subst hv
  exact gw_iald hC (1 + j) (g_lay_arr LM_n hj) hi hd k
theorem Mast {j : Nat} (hC : gC X cc own d L nL ret) (hj : j < nAM) {i x : Int32} (hi : gIn i (lenM j) = true) (hd : decode cc pc = .ok (.iastore, 1)) (k : gw X rv we (LM ao aa X.2.2.1 (gA σ j i.toNatClampNeg x)) lv (pc + 1) st) : gw X rv we (LM ao aa X.2.2.1 σ) lv pc (.int x :: .int i :: .ref (aa j) :: st) :=
  gw_iast hC (1 + j) (g_lay_arr LM_n hj) hi _ (g_lay_setA LM_n hj) hd k
theorem Malen {j : Nat} (hC : gC X cc own d L nL ret) (hj : j < nAM) (hd : decode cc pc = .ok (.arraylength, 1)) (k : gw X rv we (LM ao aa X.2.2.1 σ) lv (pc + 1) (.int (Int32.ofNat (lenM j)) :: st)) : gw X rv we (LM ao aa X.2.2.1 σ) lv pc (.ref (aa j) :: st) :=
  gw_alen hC (1 + j) (g_lay_arr LM_n hj) hd k
theorem Maldj {j : Nat} (hC : gC X cc own d L nL ret) {i : Int32} (hi : (decide (j < nAM) && gIn i (lenM j)) = true) (hd : decode cc pc = .ok (.iaload, 1)) (v : Int32) (hv : σ.2 j i.toNatClampNeg = v) (k : gw X rv we (LM ao aa X.2.2.1 σ) lv (pc + 1) (.int v :: st)) : gw X rv we (LM ao aa X.2.2.1 σ) lv pc (.int i :: .ref (aa j) :: st) :=
  Mald hC (of_decide_eq_true (Bool.and_eq_true_iff.mp hi).1) (Bool.and_eq_true_iff.mp hi).2 hd v hv k
theorem Mastj {j : Nat} (hC : gC X cc own d L nL ret) {i x : Int32} (hi : (decide (j < nAM) && gIn i (lenM j)) = true) (hd : decode cc pc = .ok (.iastore, 1)) (k : gw X rv we (LM ao aa X.2.2.1 (gA σ j i.toNatClampNeg x)) lv (pc + 1) st) : gw X rv we (LM ao aa X.2.2.1 σ) lv pc (.int x :: .int i :: .ref (aa j) :: st) :=
  Mast hC (of_decide_eq_true (Bool.and_eq_true_iff.mp hi).1) (Bool.and_eq_true_iff.mp hi).2 hd k
end LayM
