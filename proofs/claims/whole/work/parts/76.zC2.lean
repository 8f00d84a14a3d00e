def zReader_readEscape_b160 (N : Nat) (σ : z_S) : Option (Int × z_S) := (zReader_readZero N σ).bind fun q161 => some (q161.1, q161.2)
theorem zReader_readEscape_b160_r (N : Nat) (σ : z_S) (hσ : zR σ) : zrel (zReader_readEscape_b160 N σ) (Reader_readEscape_b160 N (zo σ)) := by
  unfold zReader_readEscape_b160 Reader_readEscape_b160
  refine zr_bind (zr_of (zReader_readZero_r N  _ hσ) (congrArg (Reader_readZero N) rfl)) (fun r161 s161σ hr161 hs161 => ?_)
  dsimp only
  exact zr_some rfl hr161 rfl hs161
def zReader_readEscape_b200 (N : Nat) (x1 : Int) (σ : z_S) : Option (Int × z_S) := if zin (65536 + x1) then some ((65536 + x1), σ) else none
theorem zReader_readEscape_b200_r (N : Nat) (x1 : Int) (hx1 : zin x1) (σ : z_S) (hσ : zR σ) : zrel (zReader_readEscape_b200 N x1 σ) (Reader_readEscape_b200 N (zI x1) (zo σ)) := by
  unfold zReader_readEscape_b200 Reader_readEscape_b200
  refine zr_g (fun g1 => ?_)
  exact zr_some (zI_add (zl_65536) rfl) g1 rfl hσ
def zReader_readEscape_b165 (N : Nat) (σ : z_S) : Option (Int × z_S) := some (8, σ)
theorem zReader_readEscape_b165_r (N : Nat) (σ : z_S) (hσ : zR σ) : zrel (zReader_readEscape_b165 N σ) (Reader_readEscape_b165 N (zo σ)) := by
  unfold zReader_readEscape_b165 Reader_readEscape_b165
  exact zr_some (zl_8) (by decide) rfl hσ
def zReader_readEscape_b183 (N : Nat) (σ : z_S) : Option (Int × z_S) := (zReader_readControl N σ).bind fun q184 => some (q184.1, q184.2)
theorem zReader_readEscape_b183_r (N : Nat) (σ : z_S) (hσ : zR σ) : zrel (zReader_readEscape_b183 N σ) (Reader_readEscape_b183 N (zo σ)) := by
  unfold zReader_readEscape_b183 Reader_readEscape_b183
  refine zr_bind (zr_of (zReader_readControl_r N  _ hσ) (congrArg (Reader_readControl N) rfl)) (fun r184 s184σ hr184 hs184 => ?_)
  dsimp only
  exact zr_some rfl hr184 rfl hs184
def zReader_readEscape_b177 (N : Nat) (σ : z_S) : Option (Int × z_S) := some (12, σ)
theorem zReader_readEscape_b177_r (N : Nat) (σ : z_S) (hσ : zR σ) : zrel (zReader_readEscape_b177 N σ) (Reader_readEscape_b177 N (zo σ)) := by
  unfold zReader_readEscape_b177 Reader_readEscape_b177
  exact zr_some (zl_12) (by decide) rfl hσ
def zReader_readEscape_b171 (N : Nat) (σ : z_S) : Option (Int × z_S) := some (10, σ)
theorem zReader_readEscape_b171_r (N : Nat) (σ : z_S) (hσ : zR σ) : zrel (zReader_readEscape_b171 N σ) (Reader_readEscape_b171 N (zo σ)) := by
  unfold zReader_readEscape_b171 Reader_readEscape_b171
  exact zr_some (zl_10) (by decide) rfl hσ
def zReader_readEscape_b180 (N : Nat) (σ : z_S) : Option (Int × z_S) := some (13, σ)
theorem zReader_readEscape_b180_r (N : Nat) (σ : z_S) (hσ : zR σ) : zrel (zReader_readEscape_b180 N σ) (Reader_readEscape_b180 N (zo σ)) := by
  unfold zReader_readEscape_b180 Reader_readEscape_b180
  exact zr_some (zl_13) (by decide) rfl hσ
def zReader_readEscape_b168 (N : Nat) (σ : z_S) : Option (Int × z_S) := some (9, σ)
theorem zReader_readEscape_b168_r (N : Nat) (σ : z_S) (hσ : zR σ) : zrel (zReader_readEscape_b168 N σ) (Reader_readEscape_b168 N (zo σ)) := by
  unfold zReader_readEscape_b168 Reader_readEscape_b168
  exact zr_some (zl_9) (by decide) rfl hσ
def zReader_readEscape_b194 (N : Nat) (σ : z_S) : Option (Int × z_S) := (zReader_readSixteenths N 4 σ).bind fun q196 => some (q196.1, q196.2)
theorem zReader_readEscape_b194_r (N : Nat) (σ : z_S) (hσ : zR σ) : zrel (zReader_readEscape_b194 N σ) (Reader_readEscape_b194 N (zo σ)) := by
  unfold zReader_readEscape_b194 Reader_readEscape_b194
  refine zr_bind (zr_of (zReader_readSixteenths_r N _ (by decide) _ hσ) (congr (congrArg (Reader_readSixteenths N) (zl_4)) rfl)) (fun r196 s196σ hr196 hs196 => ?_)
  dsimp only
  exact zr_some rfl hr196 rfl hs196
def zReader_readEscape_b174 (N : Nat) (σ : z_S) : Option (Int × z_S) := some (11, σ)
theorem zReader_readEscape_b174_r (N : Nat) (σ : z_S) (hσ : zR σ) : zrel (zReader_readEscape_b174 N σ) (Reader_readEscape_b174 N (zo σ)) := by
  unfold zReader_readEscape_b174 Reader_readEscape_b174
  exact zr_some (zl_11) (by decide) rfl hσ
def zReader_readEscape_b188 (N : Nat) (σ : z_S) : Option (Int × z_S) := (zReader_readSixteenths N 2 σ).bind fun q190 => some (q190.1, q190.2)
theorem zReader_readEscape_b188_r (N : Nat) (σ : z_S) (hσ : zR σ) : zrel (zReader_readEscape_b188 N σ) (Reader_readEscape_b188 N (zo σ)) := by
  unfold zReader_readEscape_b188 Reader_readEscape_b188
  refine zr_bind (zr_of (zReader_readSixteenths_r N _ (by decide) _ hσ) (congr (congrArg (Reader_readSixteenths N) (zl_2)) rfl)) (fun r190 s190σ hr190 hs190 => ?_)
  dsimp only
  exact zr_some rfl hr190 rfl hs190
def zReader_readEscape_b233 (N : Nat) (x1 : Int) (σ : z_S) : Option (Int × z_S) := some (x1, σ)
theorem zReader_readEscape_b233_r (N : Nat) (x1 : Int) (hx1 : zin x1) (σ : z_S) (hσ : zR σ) : zrel (zReader_readEscape_b233 N x1 σ) (Reader_readEscape_b233 N (zI x1) (zo σ)) := by
  unfold zReader_readEscape_b233 Reader_readEscape_b233
  exact zr_some rfl hx1 rfl hσ
def zReader_readEscape_b223 (N : Nat) (x1 : Int) (σ : z_S) : Option (Int × z_S) := if zin ((σ.1 12) - 1) then zReader_readEscape_b233 N x1 (zF σ 13 ((σ.1 12) - 1)) else none
theorem zReader_readEscape_b223_r (N : Nat) (x1 : Int) (hx1 : zin x1) (σ : z_S) (hσ : zR σ) : zrel (zReader_readEscape_b223 N x1 σ) (Reader_readEscape_b223 N (zI x1) (zo σ)) := by
  unfold zReader_readEscape_b223 Reader_readEscape_b223
  refine zr_g (fun g1 => ?_)
  exact zr_of (zReader_readEscape_b233_r N _ hx1 _ (zR_F (k := 13) hσ g1)) (congr (congrArg (Reader_readEscape_b233 N) rfl) (zo_F (k := 13) rfl (zI_sub (zo_fld rfl 12) (zl_1))))
def zReader_readEscape_b216 (N : Nat) (x1 : Int) (σ : z_S) : Option (Int × z_S) := (zUnits_isNamePart N x1 σ).bind fun q217 => if q217.1 = 0 then zReader_readEscape_b233 N x1 q217.2 else zReader_readEscape_b223 N x1 q217.2
theorem zReader_readEscape_b216_r (N : Nat) (x1 : Int) (hx1 : zin x1) (σ : z_S) (hσ : zR σ) : zrel (zReader_readEscape_b216 N x1 σ) (Reader_readEscape_b216 N (zI x1) (zo σ)) := by
  unfold zReader_readEscape_b216 Reader_readEscape_b216
  refine zr_bind (zr_of (zUnits_isNamePart_r N _ hx1 _ hσ) (congr (congrArg (Units_isNamePart N) rfl) rfl)) (fun r217 s217σ hr217 hs217 => ?_)
  dsimp only
  refine zr_ite (zI_eq rfl (zl_0) hr217 (by decide)) ?_ ?_
  · exact zr_of (zReader_readEscape_b233_r N _ hx1 _ hs217) (congr (congrArg (Reader_readEscape_b233 N) rfl) rfl)
  · exact zr_of (zReader_readEscape_b223_r N _ hx1 _ hs217) (congr (congrArg (Reader_readEscape_b223 N) rfl) rfl)
def zReader_readEscape_b209 (N : Nat) (x1 : Int) (σ : z_S) : Option (Int × z_S) := if (255 : Int) < x1 then zReader_readEscape_b223 N x1 σ else zReader_readEscape_b216 N x1 σ
theorem zReader_readEscape_b209_r (N : Nat) (x1 : Int) (hx1 : zin x1) (σ : z_S) (hσ : zR σ) : zrel (zReader_readEscape_b209 N x1 σ) (Reader_readEscape_b209 N (zI x1) (zo σ)) := by
  unfold zReader_readEscape_b209 Reader_readEscape_b209
  refine zr_ite (zI_lt (zl_255) rfl (by decide) hx1) ?_ ?_
  · exact zr_of (zReader_readEscape_b223_r N _ hx1 _ hσ) (congr (congrArg (Reader_readEscape_b223 N) rfl) rfl)
  · exact zr_of (zReader_readEscape_b216_r N _ hx1 _ hσ) (congr (congrArg (Reader_readEscape_b216 N) rfl) rfl)
def zReader_readEscape_b205 (N : Nat) (x1 : Int) (σ : z_S) : Option (Int × z_S) := if x1 < 0 then zReader_readEscape_b223 N x1 σ else zReader_readEscape_b209 N x1 σ
theorem zReader_readEscape_b205_r (N : Nat) (x1 : Int) (hx1 : zin x1) (σ : z_S) (hσ : zR σ) : zrel (zReader_readEscape_b205 N x1 σ) (Reader_readEscape_b205 N (zI x1) (zo σ)) := by
  unfold zReader_readEscape_b205 Reader_readEscape_b205
  refine zr_ite (zI_lt rfl (zl_0) hx1 (by decide)) ?_ ?_
  · exact zr_of (zReader_readEscape_b223_r N _ hx1 _ hσ) (congr (congrArg (Reader_readEscape_b223 N) rfl) rfl)
  · exact zr_of (zReader_readEscape_b209_r N _ hx1 _ hσ) (congr (congrArg (Reader_readEscape_b209 N) rfl) rfl)
def zReader_readEscape_b0 (N : Nat) (σ : z_S) : Option (Int × z_S) := if zin ((σ.1 12) + 1) then (zReader_unitAt N ((σ.1 12) + 1) σ).bind fun q7 => if q7.1 = 48 then if zin ((q7.2.1 12) + 2) then zReader_readEscape_b160 N (zF q7.2 12 ((q7.2.1 12) + 2)) else none else if q7.1 = 68 then if zin ((q7.2.1 12) + 2) then zReader_readEscape_b200 N q7.1 (zF q7.2 12 ((q7.2.1 12) + 2)) else none else if q7.1 = 83 then if zin ((q7.2.1 12) + 2) then zReader_readEscape_b200 N q7.1 (zF q7.2 12 ((q7.2.1 12) + 2)) else none else if q7.1 = 87 then if zin ((q7.2.1 12) + 2) then zReader_readEscape_b200 N q7.1 (zF q7.2 12 ((q7.2.1 12) + 2)) else none else if q7.1 = 98 then if zin ((q7.2.1 12) + 2) then zReader_readEscape_b165 N (zF q7.2 12 ((q7.2.1 12) + 2)) else none else if q7.1 = 99 then if zin ((q7.2.1 12) + 2) then zReader_readEscape_b183 N (zF q7.2 12 ((q7.2.1 12) + 2)) else none else if q7.1 = 100 then if zin ((q7.2.1 12) + 2) then zReader_readEscape_b200 N q7.1 (zF q7.2 12 ((q7.2.1 12) + 2)) else none else if q7.1 = 102 then if zin ((q7.2.1 12) + 2) then zReader_readEscape_b177 N (zF q7.2 12 ((q7.2.1 12) + 2)) else none else if q7.1 = 110 then if zin ((q7.2.1 12) + 2) then zReader_readEscape_b171 N (zF q7.2 12 ((q7.2.1 12) + 2)) else none else if q7.1 = 114 then if zin ((q7.2.1 12) + 2) then zReader_readEscape_b180 N (zF q7.2 12 ((q7.2.1 12) + 2)) else none else if q7.1 = 115 then if zin ((q7.2.1 12) + 2) then zReader_readEscape_b200 N q7.1 (zF q7.2 12 ((q7.2.1 12) + 2)) else none else if q7.1 = 116 then if zin ((q7.2.1 12) + 2) then zReader_readEscape_b168 N (zF q7.2 12 ((q7.2.1 12) + 2)) else none else if q7.1 = 117 then if zin ((q7.2.1 12) + 2) then zReader_readEscape_b194 N (zF q7.2 12 ((q7.2.1 12) + 2)) else none else if q7.1 = 118 then if zin ((q7.2.1 12) + 2) then zReader_readEscape_b174 N (zF q7.2 12 ((q7.2.1 12) + 2)) else none else if q7.1 = 119 then if zin ((q7.2.1 12) + 2) then zReader_readEscape_b200 N q7.1 (zF q7.2 12 ((q7.2.1 12) + 2)) else none else if q7.1 = 120 then if zin ((q7.2.1 12) + 2) then zReader_readEscape_b188 N (zF q7.2 12 ((q7.2.1 12) + 2)) else none else if zin ((q7.2.1 12) + 2) then zReader_readEscape_b205 N q7.1 (zF q7.2 12 ((q7.2.1 12) + 2)) else none else none
theorem zReader_readEscape_b0_r (N : Nat) (σ : z_S) (hσ : zR σ) : zrel (zReader_readEscape_b0 N σ) (Reader_readEscape_b0 N (zo σ)) := by
  unfold zReader_readEscape_b0 Reader_readEscape_b0
  refine zr_g (fun g1 => ?_)
  refine zr_bind (zr_of (zReader_unitAt_r N _ g1 _ hσ) (congr (congrArg (Reader_unitAt N) (zI_add (zo_fld rfl 12) (zl_1))) rfl)) (fun r7 s7σ hr7 hs7 => ?_)
  dsimp only
  refine zr_ite (zI_eq rfl (zl_48) hr7 (by decide)) ?_ ?_
  · refine zr_g (fun g2 => ?_)
    exact zr_of (zReader_readEscape_b160_r N  _ (zR_F (k := 12) hs7 g2)) (congrArg (Reader_readEscape_b160 N) (zo_F (k := 12) rfl (zI_add (zo_fld rfl 12) (zl_2))))
  · refine zr_ite (zI_eq rfl (zl_68) hr7 (by decide)) ?_ ?_
    · refine zr_g (fun g3 => ?_)
      exact zr_of (zReader_readEscape_b200_r N _ hr7 _ (zR_F (k := 12) hs7 g3)) (congr (congrArg (Reader_readEscape_b200 N) rfl) (zo_F (k := 12) rfl (zI_add (zo_fld rfl 12) (zl_2))))
    · refine zr_ite (zI_eq rfl (zl_83) hr7 (by decide)) ?_ ?_
      · refine zr_g (fun g4 => ?_)
        exact zr_of (zReader_readEscape_b200_r N _ hr7 _ (zR_F (k := 12) hs7 g4)) (congr (congrArg (Reader_readEscape_b200 N) rfl) (zo_F (k := 12) rfl (zI_add (zo_fld rfl 12) (zl_2))))
      · refine zr_ite (zI_eq rfl (zl_87) hr7 (by decide)) ?_ ?_
        · refine zr_g (fun g5 => ?_)
          exact zr_of (zReader_readEscape_b200_r N _ hr7 _ (zR_F (k := 12) hs7 g5)) (congr (congrArg (Reader_readEscape_b200 N) rfl) (zo_F (k := 12) rfl (zI_add (zo_fld rfl 12) (zl_2))))
        · refine zr_ite (zI_eq rfl (zl_98) hr7 (by decide)) ?_ ?_
          · refine zr_g (fun g6 => ?_)
            exact zr_of (zReader_readEscape_b165_r N  _ (zR_F (k := 12) hs7 g6)) (congrArg (Reader_readEscape_b165 N) (zo_F (k := 12) rfl (zI_add (zo_fld rfl 12) (zl_2))))
          · refine zr_ite (zI_eq rfl (zl_99) hr7 (by decide)) ?_ ?_
            · refine zr_g (fun g7 => ?_)
              exact zr_of (zReader_readEscape_b183_r N  _ (zR_F (k := 12) hs7 g7)) (congrArg (Reader_readEscape_b183 N) (zo_F (k := 12) rfl (zI_add (zo_fld rfl 12) (zl_2))))
            · refine zr_ite (zI_eq rfl (zl_100) hr7 (by decide)) ?_ ?_
              · refine zr_g (fun g8 => ?_)
                exact zr_of (zReader_readEscape_b200_r N _ hr7 _ (zR_F (k := 12) hs7 g8)) (congr (congrArg (Reader_readEscape_b200 N) rfl) (zo_F (k := 12) rfl (zI_add (zo_fld rfl 12) (zl_2))))
              · refine zr_ite (zI_eq rfl (zl_102) hr7 (by decide)) ?_ ?_
                · refine zr_g (fun g9 => ?_)
                  exact zr_of (zReader_readEscape_b177_r N  _ (zR_F (k := 12) hs7 g9)) (congrArg (Reader_readEscape_b177 N) (zo_F (k := 12) rfl (zI_add (zo_fld rfl 12) (zl_2))))
                · refine zr_ite (zI_eq rfl (zl_110) hr7 (by decide)) ?_ ?_
                  · refine zr_g (fun g10 => ?_)
                    exact zr_of (zReader_readEscape_b171_r N  _ (zR_F (k := 12) hs7 g10)) (congrArg (Reader_readEscape_b171 N) (zo_F (k := 12) rfl (zI_add (zo_fld rfl 12) (zl_2))))
                  · refine zr_ite (zI_eq rfl (zl_114) hr7 (by decide)) ?_ ?_
                    · refine zr_g (fun g11 => ?_)
                      exact zr_of (zReader_readEscape_b180_r N  _ (zR_F (k := 12) hs7 g11)) (congrArg (Reader_readEscape_b180 N) (zo_F (k := 12) rfl (zI_add (zo_fld rfl 12) (zl_2))))
                    · refine zr_ite (zI_eq rfl (zl_115) hr7 (by decide)) ?_ ?_
                      · refine zr_g (fun g12 => ?_)
                        exact zr_of (zReader_readEscape_b200_r N _ hr7 _ (zR_F (k := 12) hs7 g12)) (congr (congrArg (Reader_readEscape_b200 N) rfl) (zo_F (k := 12) rfl (zI_add (zo_fld rfl 12) (zl_2))))
                      · refine zr_ite (zI_eq rfl (zl_116) hr7 (by decide)) ?_ ?_
                        · refine zr_g (fun g13 => ?_)
                          exact zr_of (zReader_readEscape_b168_r N  _ (zR_F (k := 12) hs7 g13)) (congrArg (Reader_readEscape_b168 N) (zo_F (k := 12) rfl (zI_add (zo_fld rfl 12) (zl_2))))
                        · refine zr_ite (zI_eq rfl (zl_117) hr7 (by decide)) ?_ ?_
                          · refine zr_g (fun g14 => ?_)
                            exact zr_of (zReader_readEscape_b194_r N  _ (zR_F (k := 12) hs7 g14)) (congrArg (Reader_readEscape_b194 N) (zo_F (k := 12) rfl (zI_add (zo_fld rfl 12) (zl_2))))
                          · refine zr_ite (zI_eq rfl (zl_118) hr7 (by decide)) ?_ ?_
                            · refine zr_g (fun g15 => ?_)
                              exact zr_of (zReader_readEscape_b174_r N  _ (zR_F (k := 12) hs7 g15)) (congrArg (Reader_readEscape_b174 N) (zo_F (k := 12) rfl (zI_add (zo_fld rfl 12) (zl_2))))
                            · refine zr_ite (zI_eq rfl (zl_119) hr7 (by decide)) ?_ ?_
                              · refine zr_g (fun g16 => ?_)
                                exact zr_of (zReader_readEscape_b200_r N _ hr7 _ (zR_F (k := 12) hs7 g16)) (congr (congrArg (Reader_readEscape_b200 N) rfl) (zo_F (k := 12) rfl (zI_add (zo_fld rfl 12) (zl_2))))
                              · refine zr_ite (zI_eq rfl (zl_120) hr7 (by decide)) ?_ ?_
                                · refine zr_g (fun g17 => ?_)
                                  exact zr_of (zReader_readEscape_b188_r N  _ (zR_F (k := 12) hs7 g17)) (congrArg (Reader_readEscape_b188 N) (zo_F (k := 12) rfl (zI_add (zo_fld rfl 12) (zl_2))))
                                · refine zr_g (fun g18 => ?_)
                                  exact zr_of (zReader_readEscape_b205_r N _ hr7 _ (zR_F (k := 12) hs7 g18)) (congr (congrArg (Reader_readEscape_b205 N) rfl) (zo_F (k := 12) rfl (zI_add (zo_fld rfl 12) (zl_2))))
def zReader_readEscape (N : Nat) (σ : z_S) : Option (Int × z_S) := zReader_readEscape_b0 N σ
theorem zReader_readEscape_r (N : Nat) (σ : z_S) (hσ : zR σ) : zrel (zReader_readEscape N σ) (Reader_readEscape N (zo σ)) := by
  unfold zReader_readEscape Reader_readEscape
  exact zr_of (zReader_readEscape_b0_r N  _ hσ) (congrArg (Reader_readEscape_b0 N) rfl)
def zReader_takeUnit_b0 (N : Nat) (σ : z_S) : Option (Int × z_S) := (zReader_unitAt N (σ.1 12) σ).bind fun q5 => if zin ((q5.2.1 12) + 1) then some (q5.1, (zF q5.2 12 ((q5.2.1 12) + 1))) else none
theorem zReader_takeUnit_b0_r (N : Nat) (σ : z_S) (hσ : zR σ) : zrel (zReader_takeUnit_b0 N σ) (Reader_takeUnit_b0 N (zo σ)) := by
  unfold zReader_takeUnit_b0 Reader_takeUnit_b0
  refine zr_bind (zr_of (zReader_unitAt_r N _ (hσ.1 12) _ hσ) (congr (congrArg (Reader_unitAt N) (zo_fld rfl 12)) rfl)) (fun r5 s5σ hr5 hs5 => ?_)
  dsimp only
  refine zr_g (fun g1 => ?_)
  exact zr_some rfl hr5 (zo_F (k := 12) rfl (zI_add (zo_fld rfl 12) (zl_1))) (zR_F (k := 12) hs5 g1)
def zReader_takeUnit (N : Nat) (σ : z_S) : Option (Int × z_S) := zReader_takeUnit_b0 N σ
theorem zReader_takeUnit_r (N : Nat) (σ : z_S) (hσ : zR σ) : zrel (zReader_takeUnit N σ) (Reader_takeUnit N (zo σ)) := by
  unfold zReader_takeUnit Reader_takeUnit
  exact zr_of (zReader_takeUnit_b0_r N  _ hσ) (congrArg (Reader_takeUnit_b0 N) rfl)
def zReader_takeMember_b121 (N : Nat) (x2 : Int) (σ : z_S) : Option (Int × z_S) := if zin ((σ.1 12) + 1) then some (x2, (zF σ 12 ((σ.1 12) + 1))) else none
theorem zReader_takeMember_b121_r (N : Nat) (x2 : Int) (hx2 : zin x2) (σ : z_S) (hσ : zR σ) : zrel (zReader_takeMember_b121 N x2 σ) (Reader_takeMember_b121 N (zI x2) (zo σ)) := by
  unfold zReader_takeMember_b121 Reader_takeMember_b121
  refine zr_g (fun g1 => ?_)
  exact zr_some rfl hx2 (zo_F (k := 12) rfl (zI_add (zo_fld rfl 12) (zl_1))) (zR_F (k := 12) hσ g1)
def zReader_takeMember_b113 (N : Nat) (x2 : Int) (σ : z_S) : Option (Int × z_S) := zReader_takeMember_b121 N x2 (zF σ 13 (σ.1 12))
theorem zReader_takeMember_b113_r (N : Nat) (x2 : Int) (hx2 : zin x2) (σ : z_S) (hσ : zR σ) : zrel (zReader_takeMember_b113 N x2 σ) (Reader_takeMember_b113 N (zI x2) (zo σ)) := by
  unfold zReader_takeMember_b113 Reader_takeMember_b113
  exact zr_of (zReader_takeMember_b121_r N _ hx2 _ (zR_F (k := 13) hσ (hσ.1 12))) (congr (congrArg (Reader_takeMember_b121 N) rfl) (zo_F (k := 13) rfl (zo_fld rfl 12)))
def zReader_takeMember_b108 (N : Nat) (x2 : Int) (x4 : Int) (σ : z_S) : Option (Int × z_S) := if x4 = 0 then zReader_takeMember_b121 N x2 σ else zReader_takeMember_b113 N x2 σ
theorem zReader_takeMember_b108_r (N : Nat) (x2 : Int) (hx2 : zin x2) (x4 : Int) (hx4 : zin x4) (σ : z_S) (hσ : zR σ) : zrel (zReader_takeMember_b108 N x2 x4 σ) (Reader_takeMember_b108 N (zI x2) (zI x4) (zo σ)) := by
  unfold zReader_takeMember_b108 Reader_takeMember_b108
  refine zr_ite (zI_eq rfl (zl_0) hx4 (by decide)) ?_ ?_
  · exact zr_of (zReader_takeMember_b121_r N _ hx2 _ hσ) (congr (congrArg (Reader_takeMember_b121 N) rfl) rfl)
  · exact zr_of (zReader_takeMember_b113_r N _ hx2 _ hσ) (congr (congrArg (Reader_takeMember_b113 N) rfl) rfl)
def zReader_takeMember_b97 (N : Nat) (x2 : Int) (σ : z_S) : Option (Int × z_S) := (zProgram_addMember N x2 x2 σ).bind fun q103 => some ((-1), q103.2)
theorem zReader_takeMember_b97_r (N : Nat) (x2 : Int) (hx2 : zin x2) (σ : z_S) (hσ : zR σ) : zrel (zReader_takeMember_b97 N x2 σ) (Reader_takeMember_b97 N (zI x2) (zo σ)) := by
  unfold zReader_takeMember_b97 Reader_takeMember_b97
  refine zr_bind (zr_of (zProgram_addMember_r N _ hx2 _ hx2 _ hσ) (congr (congr (congrArg (Program_addMember N) rfl) rfl) rfl)) (fun r103 s103σ hr103 hs103 => ?_)
  dsimp only
  exact zr_some (zl_m1) (by decide) rfl hs103
def zReader_takeMember_b90 (N : Nat) (x2 : Int) (x4 : Int) (s0 : Int) (σ : z_S) : Option (Int × z_S) := if s0 = 0 then zReader_takeMember_b97 N x2 σ else zReader_takeMember_b108 N x2 x4 σ
theorem zReader_takeMember_b90_r (N : Nat) (x2 : Int) (hx2 : zin x2) (x4 : Int) (hx4 : zin x4) (s0 : Int) (hs0 : zin s0) (σ : z_S) (hσ : zR σ) : zrel (zReader_takeMember_b90 N x2 x4 s0 σ) (Reader_takeMember_b90 N (zI x2) (zI x4) (zI s0) (zo σ)) := by
  unfold zReader_takeMember_b90 Reader_takeMember_b90
  refine zr_ite (zI_eq rfl (zl_0) hs0 (by decide)) ?_ ?_
  · exact zr_of (zReader_takeMember_b97_r N _ hx2 _ hσ) (congr (congrArg (Reader_takeMember_b97 N) rfl) rfl)
  · exact zr_of (zReader_takeMember_b108_r N _ hx2 _ hx4 _ hσ) (congr (congr (congrArg (Reader_takeMember_b108 N) rfl) rfl) rfl)
def zReader_takeMember_b89 (N : Nat) (x2 : Int) (x4 : Int) (σ : z_S) : Option (Int × z_S) := zReader_takeMember_b90 N x2 x4 0 σ
theorem zReader_takeMember_b89_r (N : Nat) (x2 : Int) (hx2 : zin x2) (x4 : Int) (hx4 : zin x4) (σ : z_S) (hσ : zR σ) : zrel (zReader_takeMember_b89 N x2 x4 σ) (Reader_takeMember_b89 N (zI x2) (zI x4) (zo σ)) := by
  unfold zReader_takeMember_b89 Reader_takeMember_b89
  exact zr_of (zReader_takeMember_b90_r N _ hx2 _ hx4 _ (by decide) _ hσ) (congr (congr (congr (congrArg (Reader_takeMember_b90 N) rfl) rfl) (zl_0)) rfl)
def zReader_takeMember_b85 (N : Nat) (x2 : Int) (x4 : Int) (σ : z_S) : Option (Int × z_S) := zReader_takeMember_b90 N x2 x4 1 σ
theorem zReader_takeMember_b85_r (N : Nat) (x2 : Int) (hx2 : zin x2) (x4 : Int) (hx4 : zin x4) (σ : z_S) (hσ : zR σ) : zrel (zReader_takeMember_b85 N x2 x4 σ) (Reader_takeMember_b85 N (zI x2) (zI x4) (zo σ)) := by
  unfold zReader_takeMember_b85 Reader_takeMember_b85
  exact zr_of (zReader_takeMember_b90_r N _ hx2 _ hx4 _ (by decide) _ hσ) (congr (congr (congr (congrArg (Reader_takeMember_b90 N) rfl) rfl) (zl_1)) rfl)
def zReader_takeMember_b70 (N : Nat) (x2 : Int) (x4 : Int) (σ : z_S) : Option (Int × z_S) := if zin ((σ.1 12) + 1) then (zReader_unitAt N ((σ.1 12) + 1) σ).bind fun q77 => if q77.1 = 93 then zReader_takeMember_b89 N x2 x4 q77.2 else zReader_takeMember_b85 N x2 x4 q77.2 else none
theorem zReader_takeMember_b70_r (N : Nat) (x2 : Int) (hx2 : zin x2) (x4 : Int) (hx4 : zin x4) (σ : z_S) (hσ : zR σ) : zrel (zReader_takeMember_b70 N x2 x4 σ) (Reader_takeMember_b70 N (zI x2) (zI x4) (zo σ)) := by
  unfold zReader_takeMember_b70 Reader_takeMember_b70
  refine zr_g (fun g1 => ?_)
  refine zr_bind (zr_of (zReader_unitAt_r N _ g1 _ hσ) (congr (congrArg (Reader_unitAt N) (zI_add (zo_fld rfl 12) (zl_1))) rfl)) (fun r77 s77σ hr77 hs77 => ?_)
  dsimp only
  refine zr_ite (zI_eq rfl (zl_93) hr77 (by decide)) ?_ ?_
  · exact zr_of (zReader_takeMember_b89_r N _ hx2 _ hx4 _ hs77) (congr (congr (congrArg (Reader_takeMember_b89 N) rfl) rfl) rfl)
  · exact zr_of (zReader_takeMember_b85_r N _ hx2 _ hx4 _ hs77) (congr (congr (congrArg (Reader_takeMember_b85 N) rfl) rfl) rfl)
def zReader_takeMember_b57 (N : Nat) (x2 : Int) (x4 : Int) (σ : z_S) : Option (Int × z_S) := if zin ((σ.1 12) + 1) then if (σ.1 11) ≤ ((σ.1 12) + 1) then zReader_takeMember_b89 N x2 x4 σ else zReader_takeMember_b70 N x2 x4 σ else none
theorem zReader_takeMember_b57_r (N : Nat) (x2 : Int) (hx2 : zin x2) (x4 : Int) (hx4 : zin x4) (σ : z_S) (hσ : zR σ) : zrel (zReader_takeMember_b57 N x2 x4 σ) (Reader_takeMember_b57 N (zI x2) (zI x4) (zo σ)) := by
  unfold zReader_takeMember_b57 Reader_takeMember_b57
  refine zr_g (fun g1 => ?_)
  refine zr_ite (zI_le (zo_fld rfl 11) (zI_add (zo_fld rfl 12) (zl_1)) (hσ.1 11) g1) ?_ ?_
  · exact zr_of (zReader_takeMember_b89_r N _ hx2 _ hx4 _ hσ) (congr (congr (congrArg (Reader_takeMember_b89 N) rfl) rfl) rfl)
  · exact zr_of (zReader_takeMember_b70_r N _ hx2 _ hx4 _ hσ) (congr (congr (congrArg (Reader_takeMember_b70 N) rfl) rfl) rfl)
def zReader_takeMember_b44 (N : Nat) (x2 : Int) (x4 : Int) (σ : z_S) : Option (Int × z_S) := (zReader_unitAt N (σ.1 12) σ).bind fun q49 => if q49.1 = 45 then zReader_takeMember_b57 N x2 x4 q49.2 else zReader_takeMember_b89 N x2 x4 q49.2
theorem zReader_takeMember_b44_r (N : Nat) (x2 : Int) (hx2 : zin x2) (x4 : Int) (hx4 : zin x4) (σ : z_S) (hσ : zR σ) : zrel (zReader_takeMember_b44 N x2 x4 σ) (Reader_takeMember_b44 N (zI x2) (zI x4) (zo σ)) := by
  unfold zReader_takeMember_b44 Reader_takeMember_b44
  refine zr_bind (zr_of (zReader_unitAt_r N _ (hσ.1 12) _ hσ) (congr (congrArg (Reader_unitAt N) (zo_fld rfl 12)) rfl)) (fun r49 s49σ hr49 hs49 => ?_)
  dsimp only
  refine zr_ite (zI_eq rfl (zl_45) hr49 (by decide)) ?_ ?_
  · exact zr_of (zReader_takeMember_b57_r N _ hx2 _ hx4 _ hs49) (congr (congr (congrArg (Reader_takeMember_b57 N) rfl) rfl) rfl)
  · exact zr_of (zReader_takeMember_b89_r N _ hx2 _ hx4 _ hs49) (congr (congr (congrArg (Reader_takeMember_b89 N) rfl) rfl) rfl)
def zReader_takeMember_b33 (N : Nat) (x1 : Int) (x2 : Int) (σ : z_S) : Option (Int × z_S) := (zProgram_addMember N x1 x2 σ).bind fun q39 => some ((-1), q39.2)
theorem zReader_takeMember_b33_r (N : Nat) (x1 : Int) (hx1 : zin x1) (x2 : Int) (hx2 : zin x2) (σ : z_S) (hσ : zR σ) : zrel (zReader_takeMember_b33 N x1 x2 σ) (Reader_takeMember_b33 N (zI x1) (zI x2) (zo σ)) := by
  unfold zReader_takeMember_b33 Reader_takeMember_b33
  refine zr_bind (zr_of (zProgram_addMember_r N _ hx1 _ hx2 _ hσ) (congr (congr (congrArg (Program_addMember N) rfl) rfl) rfl)) (fun r39 s39σ hr39 hs39 => ?_)
  dsimp only
  exact zr_some (zl_m1) (by decide) rfl hs39
def zReader_takeMember_b28 (N : Nat) (x1 : Int) (x2 : Int) (x3 : Int) (σ : z_S) : Option (Int × z_S) := zReader_takeMember_b33 N x1 x2 (zF σ 13 x3)
theorem zReader_takeMember_b28_r (N : Nat) (x1 : Int) (hx1 : zin x1) (x2 : Int) (hx2 : zin x2) (x3 : Int) (hx3 : zin x3) (σ : z_S) (hσ : zR σ) : zrel (zReader_takeMember_b28 N x1 x2 x3 σ) (Reader_takeMember_b28 N (zI x1) (zI x2) (zI x3) (zo σ)) := by
  unfold zReader_takeMember_b28 Reader_takeMember_b28
  exact zr_of (zReader_takeMember_b33_r N _ hx1 _ hx2 _ (zR_F (k := 13) hσ hx3)) (congr (congr (congrArg (Reader_takeMember_b33 N) rfl) rfl) (zo_F (k := 13) rfl rfl))
def zReader_takeMember_b23 (N : Nat) (x1 : Int) (x2 : Int) (x3 : Int) (σ : z_S) : Option (Int × z_S) := if x1 ≤ x2 then zReader_takeMember_b33 N x1 x2 σ else zReader_takeMember_b28 N x1 x2 x3 σ
theorem zReader_takeMember_b23_r (N : Nat) (x1 : Int) (hx1 : zin x1) (x2 : Int) (hx2 : zin x2) (x3 : Int) (hx3 : zin x3) (σ : z_S) (hσ : zR σ) : zrel (zReader_takeMember_b23 N x1 x2 x3 σ) (Reader_takeMember_b23 N (zI x1) (zI x2) (zI x3) (zo σ)) := by
  unfold zReader_takeMember_b23 Reader_takeMember_b23
  refine zr_ite (zI_le rfl rfl hx1 hx2) ?_ ?_
  · exact zr_of (zReader_takeMember_b33_r N _ hx1 _ hx2 _ hσ) (congr (congr (congrArg (Reader_takeMember_b33 N) rfl) rfl) rfl)
  · exact zr_of (zReader_takeMember_b28_r N _ hx1 _ hx2 _ hx3 _ hσ) (congr (congr (congr (congrArg (Reader_takeMember_b28 N) rfl) rfl) rfl) rfl)
def zReader_takeMember_b18 (N : Nat) (x1 : Int) (x2 : Int) (x3 : Int) (x4 : Int) (σ : z_S) : Option (Int × z_S) := if x4 = 0 then zReader_takeMember_b23 N x1 x2 x3 σ else zReader_takeMember_b28 N x1 x2 x3 σ
theorem zReader_takeMember_b18_r (N : Nat) (x1 : Int) (hx1 : zin x1) (x2 : Int) (hx2 : zin x2) (x3 : Int) (hx3 : zin x3) (x4 : Int) (hx4 : zin x4) (σ : z_S) (hσ : zR σ) : zrel (zReader_takeMember_b18 N x1 x2 x3 x4 σ) (Reader_takeMember_b18 N (zI x1) (zI x2) (zI x3) (zI x4) (zo σ)) := by
  unfold zReader_takeMember_b18 Reader_takeMember_b18
  refine zr_ite (zI_eq rfl (zl_0) hx4 (by decide)) ?_ ?_
  · exact zr_of (zReader_takeMember_b23_r N _ hx1 _ hx2 _ hx3 _ hσ) (congr (congr (congr (congrArg (Reader_takeMember_b23 N) rfl) rfl) rfl) rfl)
  · exact zr_of (zReader_takeMember_b28_r N _ hx1 _ hx2 _ hx3 _ hσ) (congr (congr (congr (congrArg (Reader_takeMember_b28 N) rfl) rfl) rfl) rfl)
def zReader_takeMember_b11 (N : Nat) (x1 : Int) (x2 : Int) (x3 : Int) (s0 : Int) (σ : z_S) : Option (Int × z_S) := if x1 = (-1) then zReader_takeMember_b44 N x2 s0 σ else zReader_takeMember_b18 N x1 x2 x3 s0 σ
theorem zReader_takeMember_b11_r (N : Nat) (x1 : Int) (hx1 : zin x1) (x2 : Int) (hx2 : zin x2) (x3 : Int) (hx3 : zin x3) (s0 : Int) (hs0 : zin s0) (σ : z_S) (hσ : zR σ) : zrel (zReader_takeMember_b11 N x1 x2 x3 s0 σ) (Reader_takeMember_b11 N (zI x1) (zI x2) (zI x3) (zI s0) (zo σ)) := by
  unfold zReader_takeMember_b11 Reader_takeMember_b11
  refine zr_ite (zI_eq rfl (zl_m1) hx1 (by decide)) ?_ ?_
  · exact zr_of (zReader_takeMember_b44_r N _ hx2 _ hs0 _ hσ) (congr (congr (congrArg (Reader_takeMember_b44 N) rfl) rfl) rfl)
  · exact zr_of (zReader_takeMember_b18_r N _ hx1 _ hx2 _ hx3 _ hs0 _ hσ) (congr (congr (congr (congr (congrArg (Reader_takeMember_b18 N) rfl) rfl) rfl) rfl) rfl)
def zReader_takeMember_b10 (N : Nat) (x1 : Int) (x2 : Int) (x3 : Int) (σ : z_S) : Option (Int × z_S) := zReader_takeMember_b11 N x1 x2 x3 0 σ
theorem zReader_takeMember_b10_r (N : Nat) (x1 : Int) (hx1 : zin x1) (x2 : Int) (hx2 : zin x2) (x3 : Int) (hx3 : zin x3) (σ : z_S) (hσ : zR σ) : zrel (zReader_takeMember_b10 N x1 x2 x3 σ) (Reader_takeMember_b10 N (zI x1) (zI x2) (zI x3) (zo σ)) := by
  unfold zReader_takeMember_b10 Reader_takeMember_b10
  exact zr_of (zReader_takeMember_b11_r N _ hx1 _ hx2 _ hx3 _ (by decide) _ hσ) (congr (congr (congr (congr (congrArg (Reader_takeMember_b11 N) rfl) rfl) rfl) (zl_0)) rfl)
def zReader_takeMember_b6 (N : Nat) (x1 : Int) (x2 : Int) (x3 : Int) (σ : z_S) : Option (Int × z_S) := zReader_takeMember_b11 N x1 x2 x3 1 σ
theorem zReader_takeMember_b6_r (N : Nat) (x1 : Int) (hx1 : zin x1) (x2 : Int) (hx2 : zin x2) (x3 : Int) (hx3 : zin x3) (σ : z_S) (hσ : zR σ) : zrel (zReader_takeMember_b6 N x1 x2 x3 σ) (Reader_takeMember_b6 N (zI x1) (zI x2) (zI x3) (zo σ)) := by
  unfold zReader_takeMember_b6 Reader_takeMember_b6
  exact zr_of (zReader_takeMember_b11_r N _ hx1 _ hx2 _ hx3 _ (by decide) _ hσ) (congr (congr (congr (congr (congrArg (Reader_takeMember_b11 N) rfl) rfl) rfl) (zl_1)) rfl)
def zReader_takeMember_b0 (N : Nat) (x1 : Int) (x2 : Int) (x3 : Int) (σ : z_S) : Option (Int × z_S) := if x2 < 65536 then zReader_takeMember_b10 N x1 x2 x3 σ else zReader_takeMember_b6 N x1 x2 x3 σ
theorem zReader_takeMember_b0_r (N : Nat) (x1 : Int) (hx1 : zin x1) (x2 : Int) (hx2 : zin x2) (x3 : Int) (hx3 : zin x3) (σ : z_S) (hσ : zR σ) : zrel (zReader_takeMember_b0 N x1 x2 x3 σ) (Reader_takeMember_b0 N (zI x1) (zI x2) (zI x3) (zo σ)) := by
  unfold zReader_takeMember_b0 Reader_takeMember_b0
  refine zr_ite (zI_lt rfl (zl_65536) hx2 (by decide)) ?_ ?_
  · exact zr_of (zReader_takeMember_b10_r N _ hx1 _ hx2 _ hx3 _ hσ) (congr (congr (congr (congrArg (Reader_takeMember_b10 N) rfl) rfl) rfl) rfl)
  · exact zr_of (zReader_takeMember_b6_r N _ hx1 _ hx2 _ hx3 _ hσ) (congr (congr (congr (congrArg (Reader_takeMember_b6 N) rfl) rfl) rfl) rfl)
def zReader_takeMember (N : Nat) (x1 : Int) (x2 : Int) (x3 : Int) (σ : z_S) : Option (Int × z_S) := zReader_takeMember_b0 N x1 x2 x3 σ
theorem zReader_takeMember_r (N : Nat) (x1 : Int) (hx1 : zin x1) (x2 : Int) (hx2 : zin x2) (x3 : Int) (hx3 : zin x3) (σ : z_S) (hσ : zR σ) : zrel (zReader_takeMember N x1 x2 x3 σ) (Reader_takeMember N (zI x1) (zI x2) (zI x3) (zo σ)) := by
  unfold zReader_takeMember Reader_takeMember
  exact zr_of (zReader_takeMember_b0_r N _ hx1 _ hx2 _ hx3 _ hσ) (congr (congr (congr (congrArg (Reader_takeMember_b0 N) rfl) rfl) rfl) rfl)
def zReader_addAtom_b0 (N : Nat) (x1 : Int) (x2 : Int) (x3 : Int) (σ : z_S) : Option (Int × z_S) := (zProgram_addNode N x1 x2 x3 σ).bind fun q7 => (zReader_holdAtom N q7.1 q7.1 (q7.2.1 8) q7.2).bind fun q24 => some (0, q24.2)
theorem zReader_addAtom_b0_r (N : Nat) (x1 : Int) (hx1 : zin x1) (x2 : Int) (hx2 : zin x2) (x3 : Int) (hx3 : zin x3) (σ : z_S) (hσ : zR σ) : zrel (zReader_addAtom_b0 N x1 x2 x3 σ) (Reader_addAtom_b0 N (zI x1) (zI x2) (zI x3) (zo σ)) := by
  unfold zReader_addAtom_b0 Reader_addAtom_b0
  refine zr_bind (zr_of (zProgram_addNode_r N _ hx1 _ hx2 _ hx3 _ hσ) (congr (congr (congr (congrArg (Program_addNode N) rfl) rfl) rfl) rfl)) (fun r7 s7σ hr7 hs7 => ?_)
  dsimp only
  refine zr_bind (zr_of (zReader_holdAtom_r N _ hr7 _ hr7 _ (hs7.1 8) _ hs7) (congr (congr (congr (congrArg (Reader_holdAtom N) rfl) rfl) (zo_fld rfl 8)) rfl)) (fun r24 s24σ hr24 hs24 => ?_)
  dsimp only
  exact zr_some (zl_0) (by decide) rfl hs24
def zReader_addAtom (N : Nat) (x1 : Int) (x2 : Int) (x3 : Int) (σ : z_S) : Option (Int × z_S) := zReader_addAtom_b0 N x1 x2 x3 σ
theorem zReader_addAtom_r (N : Nat) (x1 : Int) (hx1 : zin x1) (x2 : Int) (hx2 : zin x2) (x3 : Int) (hx3 : zin x3) (σ : z_S) (hσ : zR σ) : zrel (zReader_addAtom N x1 x2 x3 σ) (Reader_addAtom N (zI x1) (zI x2) (zI x3) (zo σ)) := by
  unfold zReader_addAtom Reader_addAtom
  exact zr_of (zReader_addAtom_b0_r N _ hx1 _ hx2 _ hx3 _ hσ) (congr (congr (congr (congrArg (Reader_addAtom_b0 N) rfl) rfl) rfl) rfl)
def zReader_readClass_b214 (N : Nat) (σ : z_S) : Option (Int × z_S) := some (0, σ)
theorem zReader_readClass_b214_r (N : Nat) (σ : z_S) (hσ : zR σ) : zrel (zReader_readClass_b214 N σ) (Reader_readClass_b214 N (zo σ)) := by
  unfold zReader_readClass_b214 Reader_readClass_b214
  exact zr_some (zl_0) (by decide) rfl hσ
def zReader_readClass_b203 (N : Nat) (x2 : Int) (s1 : Int) (σ : z_S) : Option (Int × z_S) := (zReader_addAtom N s1 x2 (σ.1 5) σ).bind fun q211 => zReader_readClass_b214 N q211.2
theorem zReader_readClass_b203_r (N : Nat) (x2 : Int) (hx2 : zin x2) (s1 : Int) (hs1 : zin s1) (σ : z_S) (hσ : zR σ) : zrel (zReader_readClass_b203 N x2 s1 σ) (Reader_readClass_b203 N (zI x2) (zI s1) (zo σ)) := by
  unfold zReader_readClass_b203 Reader_readClass_b203
  refine zr_bind (zr_of (zReader_addAtom_r N _ hs1 _ hx2 _ (hσ.1 5) _ hσ) (congr (congr (congr (congrArg (Reader_addAtom N) rfl) rfl) (zo_fld rfl 5)) rfl)) (fun r211 s211σ hr211 hs211 => ?_)
  dsimp only
  exact zr_of (zReader_readClass_b214_r N  _ hs211) (congrArg (Reader_readClass_b214 N) rfl)
def zReader_readClass_b202 (N : Nat) (x2 : Int) (σ : z_S) : Option (Int × z_S) := zReader_readClass_b203 N x2 4 σ
theorem zReader_readClass_b202_r (N : Nat) (x2 : Int) (hx2 : zin x2) (σ : z_S) (hσ : zR σ) : zrel (zReader_readClass_b202 N x2 σ) (Reader_readClass_b202 N (zI x2) (zo σ)) := by
  unfold zReader_readClass_b202 Reader_readClass_b202
  exact zr_of (zReader_readClass_b203_r N _ hx2 _ (by decide) _ hσ) (congr (congr (congrArg (Reader_readClass_b203 N) rfl) (zl_4)) rfl)
def zReader_readClass_b198 (N : Nat) (x2 : Int) (σ : z_S) : Option (Int × z_S) := zReader_readClass_b203 N x2 5 σ
theorem zReader_readClass_b198_r (N : Nat) (x2 : Int) (hx2 : zin x2) (σ : z_S) (hσ : zR σ) : zrel (zReader_readClass_b198 N x2 σ) (Reader_readClass_b198 N (zI x2) (zo σ)) := by
  unfold zReader_readClass_b198 Reader_readClass_b198
  exact zr_of (zReader_readClass_b203_r N _ hx2 _ (by decide) _ hσ) (congr (congr (congrArg (Reader_readClass_b203 N) rfl) (zl_5)) rfl)
def zReader_readClass_b183 (N : Nat) (x1 : Int) (x2 : Int) (σ : z_S) : Option (Int × z_S) := if x1 = 0 then if zin ((σ.1 12) + 1) then zReader_readClass_b202 N x2 (zF σ 12 ((σ.1 12) + 1)) else none else if zin ((σ.1 12) + 1) then zReader_readClass_b198 N x2 (zF σ 12 ((σ.1 12) + 1)) else none
theorem zReader_readClass_b183_r (N : Nat) (x1 : Int) (hx1 : zin x1) (x2 : Int) (hx2 : zin x2) (σ : z_S) (hσ : zR σ) : zrel (zReader_readClass_b183 N x1 x2 σ) (Reader_readClass_b183 N (zI x1) (zI x2) (zo σ)) := by
  unfold zReader_readClass_b183 Reader_readClass_b183
  refine zr_ite (zI_eq rfl (zl_0) hx1 (by decide)) ?_ ?_
  · refine zr_g (fun g1 => ?_)
    exact zr_of (zReader_readClass_b202_r N _ hx2 _ (zR_F (k := 12) hσ g1)) (congr (congrArg (Reader_readClass_b202 N) rfl) (zo_F (k := 12) rfl (zI_add (zo_fld rfl 12) (zl_1))))
  · refine zr_g (fun g2 => ?_)
    exact zr_of (zReader_readClass_b198_r N _ hx2 _ (zR_F (k := 12) hσ g2)) (congr (congrArg (Reader_readClass_b198 N) rfl) (zo_F (k := 12) rfl (zI_add (zo_fld rfl 12) (zl_1))))
def zReader_readClass_b176 (N : Nat) (x1 : Int) (x2 : Int) (σ : z_S) : Option (Int × z_S) := if (0 : Int) ≤ (σ.1 13) then zReader_readClass_b214 N σ else zReader_readClass_b183 N x1 x2 σ
theorem zReader_readClass_b176_r (N : Nat) (x1 : Int) (hx1 : zin x1) (x2 : Int) (hx2 : zin x2) (σ : z_S) (hσ : zR σ) : zrel (zReader_readClass_b176 N x1 x2 σ) (Reader_readClass_b176 N (zI x1) (zI x2) (zo σ)) := by
  unfold zReader_readClass_b176 Reader_readClass_b176
  refine zr_ite (zI_le (zl_0) (zo_fld rfl 13) (by decide) (hσ.1 13)) ?_ ?_
  · exact zr_of (zReader_readClass_b214_r N  _ hσ) (congrArg (Reader_readClass_b214 N) rfl)
  · exact zr_of (zReader_readClass_b183_r N _ hx1 _ hx2 _ hσ) (congr (congr (congrArg (Reader_readClass_b183 N) rfl) rfl) rfl)
def zReader_readClass_b168 (N : Nat) (x1 : Int) (x2 : Int) (σ : z_S) : Option (Int × z_S) := zReader_readClass_b176 N x1 x2 (zF σ 13 (σ.1 11))
theorem zReader_readClass_b168_r (N : Nat) (x1 : Int) (hx1 : zin x1) (x2 : Int) (hx2 : zin x2) (σ : z_S) (hσ : zR σ) : zrel (zReader_readClass_b168 N x1 x2 σ) (Reader_readClass_b168 N (zI x1) (zI x2) (zo σ)) := by
  unfold zReader_readClass_b168 Reader_readClass_b168
  exact zr_of (zReader_readClass_b176_r N _ hx1 _ hx2 _ (zR_F (k := 13) hσ (hσ.1 11))) (congr (congr (congrArg (Reader_readClass_b176 N) rfl) rfl) (zo_F (k := 13) rfl (zo_fld rfl 11)))
def zReader_readClass_b157 (N : Nat) (x1 : Int) (x2 : Int) (σ : z_S) : Option (Int × z_S) := if (σ.1 12) < (σ.1 11) then zReader_readClass_b176 N x1 x2 σ else zReader_readClass_b168 N x1 x2 σ
theorem zReader_readClass_b157_r (N : Nat) (x1 : Int) (hx1 : zin x1) (x2 : Int) (hx2 : zin x2) (σ : z_S) (hσ : zR σ) : zrel (zReader_readClass_b157 N x1 x2 σ) (Reader_readClass_b157 N (zI x1) (zI x2) (zo σ)) := by
  unfold zReader_readClass_b157 Reader_readClass_b157
  refine zr_ite (zI_lt (zo_fld rfl 12) (zo_fld rfl 11) (hσ.1 12) (hσ.1 11)) ?_ ?_
  · exact zr_of (zReader_readClass_b176_r N _ hx1 _ hx2 _ hσ) (congr (congr (congrArg (Reader_readClass_b176 N) rfl) rfl) rfl)
  · exact zr_of (zReader_readClass_b168_r N _ hx1 _ hx2 _ hσ) (congr (congr (congrArg (Reader_readClass_b168 N) rfl) rfl) rfl)
def zReader_readClass_b150 (N : Nat) (x1 : Int) (x2 : Int) (σ : z_S) : Option (Int × z_S) := if (0 : Int) ≤ (σ.1 13) then zReader_readClass_b176 N x1 x2 σ else zReader_readClass_b157 N x1 x2 σ
theorem zReader_readClass_b150_r (N : Nat) (x1 : Int) (hx1 : zin x1) (x2 : Int) (hx2 : zin x2) (σ : z_S) (hσ : zR σ) : zrel (zReader_readClass_b150 N x1 x2 σ) (Reader_readClass_b150 N (zI x1) (zI x2) (zo σ)) := by
  unfold zReader_readClass_b150 Reader_readClass_b150
  refine zr_ite (zI_le (zl_0) (zo_fld rfl 13) (by decide) (hσ.1 13)) ?_ ?_
  · exact zr_of (zReader_readClass_b176_r N _ hx1 _ hx2 _ hσ) (congr (congr (congrArg (Reader_readClass_b176 N) rfl) rfl) rfl)
  · exact zr_of (zReader_readClass_b157_r N _ hx1 _ hx2 _ hσ) (congr (congr (congrArg (Reader_readClass_b157 N) rfl) rfl) rfl)
def zReader_readClass_b144 (N : Nat) (k56 : Int → Int → Int → Int → z_S → Option (Int × z_S)) (x1 : Int) (x2 : Int) (x3 : Int) (x4 : Int) (σ : z_S) : Option (Int × z_S) := if zin (x4 + 1) then k56 x1 x2 x3 (x4 + 1) σ else none
theorem zReader_readClass_b144_r (N : Nat) (k56 : Int → Int → Int → Int → z_S → Option (Int × z_S)) (k56' : Int32 → Int32 → Int32 → Int32 → g_S → Option (Int32 × g_S)) (hk56 : ∀ (y0 : Int) (_ : zin y0) (y1 : Int) (_ : zin y1) (y2 : Int) (_ : zin y2) (y3 : Int) (_ : zin y3) (σ : z_S), zR σ → zrel (k56 y0 y1 y2 y3 σ) (k56' (zI y0) (zI y1) (zI y2) (zI y3) (zo σ))) (x1 : Int) (hx1 : zin x1) (x2 : Int) (hx2 : zin x2) (x3 : Int) (hx3 : zin x3) (x4 : Int) (hx4 : zin x4) (σ : z_S) (hσ : zR σ) : zrel (zReader_readClass_b144 N k56 x1 x2 x3 x4 σ) (Reader_readClass_b144 N k56' (zI x1) (zI x2) (zI x3) (zI x4) (zo σ)) := by
  unfold zReader_readClass_b144 Reader_readClass_b144
  refine zr_g (fun g1 => ?_)
  exact zr_of (hk56 _ hx1 _ hx2 _ hx3 _ g1 _ hσ) (congr (congr (congr (congr (congrArg (k56') rfl) rfl) rfl) (zI_add rfl (zl_1))) rfl)
def zReader_readClass_b134 (N : Nat) (k56 : Int → Int → Int → Int → z_S → Option (Int × z_S)) (x1 : Int) (x2 : Int) (x3 : Int) (x4 : Int) (x5 : Int) (x6 : Int) (σ : z_S) : Option (Int × z_S) := (zReader_takeMember N x3 x6 x5 σ).bind fun q140 => zReader_readClass_b144 N k56 x1 x2 q140.1 x4 q140.2
theorem zReader_readClass_b134_r (N : Nat) (k56 : Int → Int → Int → Int → z_S → Option (Int × z_S)) (k56' : Int32 → Int32 → Int32 → Int32 → g_S → Option (Int32 × g_S)) (hk56 : ∀ (y0 : Int) (_ : zin y0) (y1 : Int) (_ : zin y1) (y2 : Int) (_ : zin y2) (y3 : Int) (_ : zin y3) (σ : z_S), zR σ → zrel (k56 y0 y1 y2 y3 σ) (k56' (zI y0) (zI y1) (zI y2) (zI y3) (zo σ))) (x1 : Int) (hx1 : zin x1) (x2 : Int) (hx2 : zin x2) (x3 : Int) (hx3 : zin x3) (x4 : Int) (hx4 : zin x4) (x5 : Int) (hx5 : zin x5) (x6 : Int) (hx6 : zin x6) (σ : z_S) (hσ : zR σ) : zrel (zReader_readClass_b134 N k56 x1 x2 x3 x4 x5 x6 σ) (Reader_readClass_b134 N k56' (zI x1) (zI x2) (zI x3) (zI x4) (zI x5) (zI x6) (zo σ)) := by
  unfold zReader_readClass_b134 Reader_readClass_b134
  refine zr_bind (zr_of (zReader_takeMember_r N _ hx3 _ hx6 _ hx5 _ hσ) (congr (congr (congr (congrArg (Reader_takeMember N) rfl) rfl) rfl) rfl)) (fun r140 s140σ hr140 hs140 => ?_)
  dsimp only
  exact zr_of (zReader_readClass_b144_r N k56 k56' hk56 _ hx1 _ hx2 _ hr140 _ hx4 _ hs140) (congr (congr (congr (congr (congrArg (Reader_readClass_b144 N k56') rfl) rfl) rfl) rfl) rfl)
def zReader_readClass_b125 (N : Nat) (k56 : Int → Int → Int → Int → z_S → Option (Int × z_S)) (x1 : Int) (x2 : Int) (x3 : Int) (x4 : Int) (x5 : Int) (s0 : Int) (σ : z_S) : Option (Int × z_S) := if (0 : Int) ≤ (σ.1 13) then zReader_readClass_b144 N k56 x1 x2 x3 x4 σ else zReader_readClass_b134 N k56 x1 x2 x3 x4 x5 s0 σ
theorem zReader_readClass_b125_r (N : Nat) (k56 : Int → Int → Int → Int → z_S → Option (Int × z_S)) (k56' : Int32 → Int32 → Int32 → Int32 → g_S → Option (Int32 × g_S)) (hk56 : ∀ (y0 : Int) (_ : zin y0) (y1 : Int) (_ : zin y1) (y2 : Int) (_ : zin y2) (y3 : Int) (_ : zin y3) (σ : z_S), zR σ → zrel (k56 y0 y1 y2 y3 σ) (k56' (zI y0) (zI y1) (zI y2) (zI y3) (zo σ))) (x1 : Int) (hx1 : zin x1) (x2 : Int) (hx2 : zin x2) (x3 : Int) (hx3 : zin x3) (x4 : Int) (hx4 : zin x4) (x5 : Int) (hx5 : zin x5) (s0 : Int) (hs0 : zin s0) (σ : z_S) (hσ : zR σ) : zrel (zReader_readClass_b125 N k56 x1 x2 x3 x4 x5 s0 σ) (Reader_readClass_b125 N k56' (zI x1) (zI x2) (zI x3) (zI x4) (zI x5) (zI s0) (zo σ)) := by
  unfold zReader_readClass_b125 Reader_readClass_b125
  refine zr_ite (zI_le (zl_0) (zo_fld rfl 13) (by decide) (hσ.1 13)) ?_ ?_
  · exact zr_of (zReader_readClass_b144_r N k56 k56' hk56 _ hx1 _ hx2 _ hx3 _ hx4 _ hσ) (congr (congr (congr (congr (congrArg (Reader_readClass_b144 N k56') rfl) rfl) rfl) rfl) rfl)
  · exact zr_of (zReader_readClass_b134_r N k56 k56' hk56 _ hx1 _ hx2 _ hx3 _ hx4 _ hx5 _ hs0 _ hσ) (congr (congr (congr (congr (congr (congr (congrArg (Reader_readClass_b134 N k56') rfl) rfl) rfl) rfl) rfl) rfl) rfl)
def zReader_readClass_b121 (N : Nat) (k56 : Int → Int → Int → Int → z_S → Option (Int × z_S)) (x1 : Int) (x2 : Int) (x3 : Int) (x4 : Int) (x5 : Int) (σ : z_S) : Option (Int × z_S) := (zReader_takeUnit N σ).bind fun q122 => zReader_readClass_b125 N k56 x1 x2 x3 x4 x5 q122.1 q122.2
theorem zReader_readClass_b121_r (N : Nat) (k56 : Int → Int → Int → Int → z_S → Option (Int × z_S)) (k56' : Int32 → Int32 → Int32 → Int32 → g_S → Option (Int32 × g_S)) (hk56 : ∀ (y0 : Int) (_ : zin y0) (y1 : Int) (_ : zin y1) (y2 : Int) (_ : zin y2) (y3 : Int) (_ : zin y3) (σ : z_S), zR σ → zrel (k56 y0 y1 y2 y3 σ) (k56' (zI y0) (zI y1) (zI y2) (zI y3) (zo σ))) (x1 : Int) (hx1 : zin x1) (x2 : Int) (hx2 : zin x2) (x3 : Int) (hx3 : zin x3) (x4 : Int) (hx4 : zin x4) (x5 : Int) (hx5 : zin x5) (σ : z_S) (hσ : zR σ) : zrel (zReader_readClass_b121 N k56 x1 x2 x3 x4 x5 σ) (Reader_readClass_b121 N k56' (zI x1) (zI x2) (zI x3) (zI x4) (zI x5) (zo σ)) := by
  unfold zReader_readClass_b121 Reader_readClass_b121
  refine zr_bind (zr_of (zReader_takeUnit_r N  _ hσ) (congrArg (Reader_takeUnit N) rfl)) (fun r122 s122σ hr122 hs122 => ?_)
  dsimp only
  exact zr_of (zReader_readClass_b125_r N k56 k56' hk56 _ hx1 _ hx2 _ hx3 _ hx4 _ hx5 _ hr122 _ hs122) (congr (congr (congr (congr (congr (congr (congrArg (Reader_readClass_b125 N k56') rfl) rfl) rfl) rfl) rfl) rfl) rfl)
def zReader_readClass_b114 (N : Nat) (k56 : Int → Int → Int → Int → z_S → Option (Int × z_S)) (x1 : Int) (x2 : Int) (x3 : Int) (x4 : Int) (x5 : Int) (σ : z_S) : Option (Int × z_S) := (zReader_readEscape N σ).bind fun q115 => zReader_readClass_b125 N k56 x1 x2 x3 x4 x5 q115.1 q115.2
theorem zReader_readClass_b114_r (N : Nat) (k56 : Int → Int → Int → Int → z_S → Option (Int × z_S)) (k56' : Int32 → Int32 → Int32 → Int32 → g_S → Option (Int32 × g_S)) (hk56 : ∀ (y0 : Int) (_ : zin y0) (y1 : Int) (_ : zin y1) (y2 : Int) (_ : zin y2) (y3 : Int) (_ : zin y3) (σ : z_S), zR σ → zrel (k56 y0 y1 y2 y3 σ) (k56' (zI y0) (zI y1) (zI y2) (zI y3) (zo σ))) (x1 : Int) (hx1 : zin x1) (x2 : Int) (hx2 : zin x2) (x3 : Int) (hx3 : zin x3) (x4 : Int) (hx4 : zin x4) (x5 : Int) (hx5 : zin x5) (σ : z_S) (hσ : zR σ) : zrel (zReader_readClass_b114 N k56 x1 x2 x3 x4 x5 σ) (Reader_readClass_b114 N k56' (zI x1) (zI x2) (zI x3) (zI x4) (zI x5) (zo σ)) := by
  unfold zReader_readClass_b114 Reader_readClass_b114
  refine zr_bind (zr_of (zReader_readEscape_r N  _ hσ) (congrArg (Reader_readEscape N) rfl)) (fun r115 s115σ hr115 hs115 => ?_)
  dsimp only
  exact zr_of (zReader_readClass_b125_r N k56 k56' hk56 _ hx1 _ hx2 _ hx3 _ hx4 _ hx5 _ hr115 _ hs115) (congr (congr (congr (congr (congr (congr (congrArg (Reader_readClass_b125 N k56') rfl) rfl) rfl) rfl) rfl) rfl) rfl)
def zReader_readClass_b95 (N : Nat) (k56 : Int → Int → Int → Int → z_S → Option (Int × z_S)) (x1 : Int) (x2 : Int) (x3 : Int) (x4 : Int) (σ : z_S) : Option (Int × z_S) := (zReader_unitAt N (σ.1 12) σ).bind fun q106 => if q106.1 = 92 then zReader_readClass_b114 N k56 x1 x2 x3 x4 (σ.1 12) q106.2 else zReader_readClass_b121 N k56 x1 x2 x3 x4 (σ.1 12) q106.2
theorem zReader_readClass_b95_r (N : Nat) (k56 : Int → Int → Int → Int → z_S → Option (Int × z_S)) (k56' : Int32 → Int32 → Int32 → Int32 → g_S → Option (Int32 × g_S)) (hk56 : ∀ (y0 : Int) (_ : zin y0) (y1 : Int) (_ : zin y1) (y2 : Int) (_ : zin y2) (y3 : Int) (_ : zin y3) (σ : z_S), zR σ → zrel (k56 y0 y1 y2 y3 σ) (k56' (zI y0) (zI y1) (zI y2) (zI y3) (zo σ))) (x1 : Int) (hx1 : zin x1) (x2 : Int) (hx2 : zin x2) (x3 : Int) (hx3 : zin x3) (x4 : Int) (hx4 : zin x4) (σ : z_S) (hσ : zR σ) : zrel (zReader_readClass_b95 N k56 x1 x2 x3 x4 σ) (Reader_readClass_b95 N k56' (zI x1) (zI x2) (zI x3) (zI x4) (zo σ)) := by
  unfold zReader_readClass_b95 Reader_readClass_b95
  refine zr_bind (zr_of (zReader_unitAt_r N _ (hσ.1 12) _ hσ) (congr (congrArg (Reader_unitAt N) (zo_fld rfl 12)) rfl)) (fun r106 s106σ hr106 hs106 => ?_)
  dsimp only
  refine zr_ite (zI_eq rfl (zl_92) hr106 (by decide)) ?_ ?_
  · exact zr_of (zReader_readClass_b114_r N k56 k56' hk56 _ hx1 _ hx2 _ hx3 _ hx4 _ (hσ.1 12) _ hs106) (congr (congr (congr (congr (congr (congrArg (Reader_readClass_b114 N k56') rfl) rfl) rfl) rfl) (zo_fld rfl 12)) rfl)
  · exact zr_of (zReader_readClass_b121_r N k56 k56' hk56 _ hx1 _ hx2 _ hx3 _ hx4 _ (hσ.1 12) _ hs106) (congr (congr (congr (congr (congr (congrArg (Reader_readClass_b121 N k56') rfl) rfl) rfl) rfl) (zo_fld rfl 12)) rfl)
def zReader_readClass_b88 (N : Nat) (k56 : Int → Int → Int → Int → z_S → Option (Int × z_S)) (x1 : Int) (x2 : Int) (x3 : Int) (x4 : Int) (σ : z_S) : Option (Int × z_S) := if (0 : Int) ≤ (σ.1 13) then zReader_readClass_b150 N x1 x2 σ else zReader_readClass_b95 N k56 x1 x2 x3 x4 σ
theorem zReader_readClass_b88_r (N : Nat) (k56 : Int → Int → Int → Int → z_S → Option (Int × z_S)) (k56' : Int32 → Int32 → Int32 → Int32 → g_S → Option (Int32 × g_S)) (hk56 : ∀ (y0 : Int) (_ : zin y0) (y1 : Int) (_ : zin y1) (y2 : Int) (_ : zin y2) (y3 : Int) (_ : zin y3) (σ : z_S), zR σ → zrel (k56 y0 y1 y2 y3 σ) (k56' (zI y0) (zI y1) (zI y2) (zI y3) (zo σ))) (x1 : Int) (hx1 : zin x1) (x2 : Int) (hx2 : zin x2) (x3 : Int) (hx3 : zin x3) (x4 : Int) (hx4 : zin x4) (σ : z_S) (hσ : zR σ) : zrel (zReader_readClass_b88 N k56 x1 x2 x3 x4 σ) (Reader_readClass_b88 N k56' (zI x1) (zI x2) (zI x3) (zI x4) (zo σ)) := by
  unfold zReader_readClass_b88 Reader_readClass_b88
  refine zr_ite (zI_le (zl_0) (zo_fld rfl 13) (by decide) (hσ.1 13)) ?_ ?_
  · exact zr_of (zReader_readClass_b150_r N _ hx1 _ hx2 _ hσ) (congr (congr (congrArg (Reader_readClass_b150 N) rfl) rfl) rfl)
  · exact zr_of (zReader_readClass_b95_r N k56 k56' hk56 _ hx1 _ hx2 _ hx3 _ hx4 _ hσ) (congr (congr (congr (congr (congrArg (Reader_readClass_b95 N k56') rfl) rfl) rfl) rfl) rfl)
def zReader_readClass_b75 (N : Nat) (k56 : Int → Int → Int → Int → z_S → Option (Int × z_S)) (x1 : Int) (x2 : Int) (x3 : Int) (x4 : Int) (σ : z_S) : Option (Int × z_S) := (zReader_unitAt N (σ.1 12) σ).bind fun q80 => if q80.1 = 93 then zReader_readClass_b150 N x1 x2 q80.2 else zReader_readClass_b88 N k56 x1 x2 x3 x4 q80.2
theorem zReader_readClass_b75_r (N : Nat) (k56 : Int → Int → Int → Int → z_S → Option (Int × z_S)) (k56' : Int32 → Int32 → Int32 → Int32 → g_S → Option (Int32 × g_S)) (hk56 : ∀ (y0 : Int) (_ : zin y0) (y1 : Int) (_ : zin y1) (y2 : Int) (_ : zin y2) (y3 : Int) (_ : zin y3) (σ : z_S), zR σ → zrel (k56 y0 y1 y2 y3 σ) (k56' (zI y0) (zI y1) (zI y2) (zI y3) (zo σ))) (x1 : Int) (hx1 : zin x1) (x2 : Int) (hx2 : zin x2) (x3 : Int) (hx3 : zin x3) (x4 : Int) (hx4 : zin x4) (σ : z_S) (hσ : zR σ) : zrel (zReader_readClass_b75 N k56 x1 x2 x3 x4 σ) (Reader_readClass_b75 N k56' (zI x1) (zI x2) (zI x3) (zI x4) (zo σ)) := by
  unfold zReader_readClass_b75 Reader_readClass_b75
  refine zr_bind (zr_of (zReader_unitAt_r N _ (hσ.1 12) _ hσ) (congr (congrArg (Reader_unitAt N) (zo_fld rfl 12)) rfl)) (fun r80 s80σ hr80 hs80 => ?_)
  dsimp only
  refine zr_ite (zI_eq rfl (zl_93) hr80 (by decide)) ?_ ?_
  · exact zr_of (zReader_readClass_b150_r N _ hx1 _ hx2 _ hs80) (congr (congr (congrArg (Reader_readClass_b150 N) rfl) rfl) rfl)
  · exact zr_of (zReader_readClass_b88_r N k56 k56' hk56 _ hx1 _ hx2 _ hx3 _ hx4 _ hs80) (congr (congr (congr (congr (congrArg (Reader_readClass_b88 N k56') rfl) rfl) rfl) rfl) rfl)
def zReader_readClass_b64 (N : Nat) (k56 : Int → Int → Int → Int → z_S → Option (Int × z_S)) (x1 : Int) (x2 : Int) (x3 : Int) (x4 : Int) (σ : z_S) : Option (Int × z_S) := if (σ.1 11) ≤ (σ.1 12) then zReader_readClass_b150 N x1 x2 σ else zReader_readClass_b75 N k56 x1 x2 x3 x4 σ
theorem zReader_readClass_b64_r (N : Nat) (k56 : Int → Int → Int → Int → z_S → Option (Int × z_S)) (k56' : Int32 → Int32 → Int32 → Int32 → g_S → Option (Int32 × g_S)) (hk56 : ∀ (y0 : Int) (_ : zin y0) (y1 : Int) (_ : zin y1) (y2 : Int) (_ : zin y2) (y3 : Int) (_ : zin y3) (σ : z_S), zR σ → zrel (k56 y0 y1 y2 y3 σ) (k56' (zI y0) (zI y1) (zI y2) (zI y3) (zo σ))) (x1 : Int) (hx1 : zin x1) (x2 : Int) (hx2 : zin x2) (x3 : Int) (hx3 : zin x3) (x4 : Int) (hx4 : zin x4) (σ : z_S) (hσ : zR σ) : zrel (zReader_readClass_b64 N k56 x1 x2 x3 x4 σ) (Reader_readClass_b64 N k56' (zI x1) (zI x2) (zI x3) (zI x4) (zo σ)) := by
  unfold zReader_readClass_b64 Reader_readClass_b64
  refine zr_ite (zI_le (zo_fld rfl 11) (zo_fld rfl 12) (hσ.1 11) (hσ.1 12)) ?_ ?_
  · exact zr_of (zReader_readClass_b150_r N _ hx1 _ hx2 _ hσ) (congr (congr (congrArg (Reader_readClass_b150 N) rfl) rfl) rfl)
  · exact zr_of (zReader_readClass_b75_r N k56 k56' hk56 _ hx1 _ hx2 _ hx3 _ hx4 _ hσ) (congr (congr (congr (congr (congrArg (Reader_readClass_b75 N k56') rfl) rfl) rfl) rfl) rfl)
def zReader_readClass_b56 (N : Nat) (k56 : Int → Int → Int → Int → z_S → Option (Int × z_S)) (x1 : Int) (x2 : Int) (x3 : Int) (x4 : Int) (σ : z_S) : Option (Int × z_S) := if (200 : Int) ≤ x4 then zReader_readClass_b150 N x1 x2 σ else zReader_readClass_b64 N k56 x1 x2 x3 x4 σ
theorem zReader_readClass_b56_r (N : Nat) (k56 : Int → Int → Int → Int → z_S → Option (Int × z_S)) (k56' : Int32 → Int32 → Int32 → Int32 → g_S → Option (Int32 × g_S)) (hk56 : ∀ (y0 : Int) (_ : zin y0) (y1 : Int) (_ : zin y1) (y2 : Int) (_ : zin y2) (y3 : Int) (_ : zin y3) (σ : z_S), zR σ → zrel (k56 y0 y1 y2 y3 σ) (k56' (zI y0) (zI y1) (zI y2) (zI y3) (zo σ))) (x1 : Int) (hx1 : zin x1) (x2 : Int) (hx2 : zin x2) (x3 : Int) (hx3 : zin x3) (x4 : Int) (hx4 : zin x4) (σ : z_S) (hσ : zR σ) : zrel (zReader_readClass_b56 N k56 x1 x2 x3 x4 σ) (Reader_readClass_b56 N k56' (zI x1) (zI x2) (zI x3) (zI x4) (zo σ)) := by
  unfold zReader_readClass_b56 Reader_readClass_b56
  refine zr_ite (zI_le (zl_200) rfl (by decide) hx4) ?_ ?_
  · exact zr_of (zReader_readClass_b150_r N _ hx1 _ hx2 _ hσ) (congr (congr (congrArg (Reader_readClass_b150 N) rfl) rfl) rfl)
  · exact zr_of (zReader_readClass_b64_r N k56 k56' hk56 _ hx1 _ hx2 _ hx3 _ hx4 _ hσ) (congr (congr (congr (congr (congrArg (Reader_readClass_b64 N k56') rfl) rfl) rfl) rfl) rfl)
def zReader_readClass_l56 (N : Nat) : Nat → Int → Int → Int → Int → z_S → Option (Int × z_S)
  | 0 => fun _ _ _ _ _ => none
  | n + 1 => fun x1 x2 x3 x4 σ => zReader_readClass_b56 N (zReader_readClass_l56 N n) x1 x2 x3 x4 σ
theorem zReader_readClass_l56_r (N : Nat) (n : Nat) : ∀ (x1 : Int) (hx1 : zin x1) (x2 : Int) (hx2 : zin x2) (x3 : Int) (hx3 : zin x3) (x4 : Int) (hx4 : zin x4) (σ : z_S) (_ : zR σ), zrel (zReader_readClass_l56 N n x1 x2 x3 x4 σ) (Reader_readClass_l56 N n (zI x1) (zI x2) (zI x3) (zI x4) (zo σ)) := by
  induction n with
  | zero => intro x1 hx1 x2 hx2 x3 hx3 x4 hx4 σ hσ r s h; cases h
  | succ n ih => intro x1 hx1 x2 hx2 x3 hx3 x4 hx4 σ hσ; exact zReader_readClass_b56_r N _ _ (fun x1 hx1 x2 hx2 x3 hx3 x4 hx4 σ hσ => ih x1 hx1 x2 hx2 x3 hx3 x4 hx4 σ hσ) x1 hx1 x2 hx2 x3 hx3 x4 hx4 σ hσ
def zReader_readClass_b43 (N : Nat) (x1 : Int) (σ : z_S) : Option (Int × z_S) := zReader_readClass_l56 N N x1 (σ.1 5) (-1) 0 σ
theorem zReader_readClass_b43_r (N : Nat) (x1 : Int) (hx1 : zin x1) (σ : z_S) (hσ : zR σ) : zrel (zReader_readClass_b43 N x1 σ) (Reader_readClass_b43 N (zI x1) (zo σ)) := by
  unfold zReader_readClass_b43 Reader_readClass_b43
  exact zr_of (zReader_readClass_l56_r N N _ hx1 _ (hσ.1 5) _ (by decide) _ (by decide) _ hσ) (congr (congr (congr (congr (congrArg (Reader_readClass_l56 N N) rfl) (zo_fld rfl 5)) (zl_m1)) (zl_0)) rfl)
def zReader_readClass_b33 (N : Nat) (x1 : Int) (σ : z_S) : Option (Int × z_S) := if zin ((σ.1 12) + 1) then zReader_readClass_b43 N x1 (zF σ 12 ((σ.1 12) + 1)) else none
theorem zReader_readClass_b33_r (N : Nat) (x1 : Int) (hx1 : zin x1) (σ : z_S) (hσ : zR σ) : zrel (zReader_readClass_b33 N x1 σ) (Reader_readClass_b33 N (zI x1) (zo σ)) := by
  unfold zReader_readClass_b33 Reader_readClass_b33
  refine zr_g (fun g1 => ?_)
  exact zr_of (zReader_readClass_b43_r N _ hx1 _ (zR_F (k := 12) hσ g1)) (congr (congrArg (Reader_readClass_b43 N) rfl) (zo_F (k := 12) rfl (zI_add (zo_fld rfl 12) (zl_1))))
def zReader_readClass_b28 (N : Nat) (s0 : Int) (σ : z_S) : Option (Int × z_S) := if s0 = 0 then zReader_readClass_b43 N s0 σ else zReader_readClass_b33 N s0 σ
theorem zReader_readClass_b28_r (N : Nat) (s0 : Int) (hs0 : zin s0) (σ : z_S) (hσ : zR σ) : zrel (zReader_readClass_b28 N s0 σ) (Reader_readClass_b28 N (zI s0) (zo σ)) := by
  unfold zReader_readClass_b28 Reader_readClass_b28
  refine zr_ite (zI_eq rfl (zl_0) hs0 (by decide)) ?_ ?_
  · exact zr_of (zReader_readClass_b43_r N _ hs0 _ hσ) (congr (congrArg (Reader_readClass_b43 N) rfl) rfl)
  · exact zr_of (zReader_readClass_b33_r N _ hs0 _ hσ) (congr (congrArg (Reader_readClass_b33 N) rfl) rfl)
def zReader_readClass_b27 (N : Nat) (σ : z_S) : Option (Int × z_S) := zReader_readClass_b28 N 0 σ
theorem zReader_readClass_b27_r (N : Nat) (σ : z_S) (hσ : zR σ) : zrel (zReader_readClass_b27 N σ) (Reader_readClass_b27 N (zo σ)) := by
  unfold zReader_readClass_b27 Reader_readClass_b27
  exact zr_of (zReader_readClass_b28_r N _ (by decide) _ hσ) (congr (congrArg (Reader_readClass_b28 N) (zl_0)) rfl)
def zReader_readClass_b23 (N : Nat) (σ : z_S) : Option (Int × z_S) := zReader_readClass_b28 N 1 σ
theorem zReader_readClass_b23_r (N : Nat) (σ : z_S) (hσ : zR σ) : zrel (zReader_readClass_b23 N σ) (Reader_readClass_b23 N (zo σ)) := by
  unfold zReader_readClass_b23 Reader_readClass_b23
  exact zr_of (zReader_readClass_b28_r N _ (by decide) _ hσ) (congr (congrArg (Reader_readClass_b28 N) (zl_1)) rfl)
def zReader_readClass_b0 (N : Nat) (σ : z_S) : Option (Int × z_S) := if zin ((σ.1 12) + 1) then (zReader_unitAt N ((σ.1 12) + 1) (zF σ 12 ((σ.1 12) + 1))).bind fun q15 => if q15.1 = 94 then zReader_readClass_b23 N q15.2 else zReader_readClass_b27 N q15.2 else none
theorem zReader_readClass_b0_r (N : Nat) (σ : z_S) (hσ : zR σ) : zrel (zReader_readClass_b0 N σ) (Reader_readClass_b0 N (zo σ)) := by
  unfold zReader_readClass_b0 Reader_readClass_b0
  refine zr_g (fun g1 => ?_)
  refine zr_bind (zr_of (zReader_unitAt_r N _ g1 _ (zR_F (k := 12) hσ g1)) (congr (congrArg (Reader_unitAt N) (zI_add (zo_fld rfl 12) (zl_1))) (zo_F (k := 12) rfl (zI_add (zo_fld rfl 12) (zl_1))))) (fun r15 s15σ hr15 hs15 => ?_)
  dsimp only
  refine zr_ite (zI_eq rfl (zl_94) hr15 (by decide)) ?_ ?_
  · exact zr_of (zReader_readClass_b23_r N  _ hs15) (congrArg (Reader_readClass_b23 N) rfl)
  · exact zr_of (zReader_readClass_b27_r N  _ hs15) (congrArg (Reader_readClass_b27 N) rfl)
def zReader_readClass (N : Nat) (σ : z_S) : Option (Int × z_S) := zReader_readClass_b0 N σ
theorem zReader_readClass_r (N : Nat) (σ : z_S) (hσ : zR σ) : zrel (zReader_readClass N σ) (Reader_readClass N (zo σ)) := by
  unfold zReader_readClass Reader_readClass
  exact zr_of (zReader_readClass_b0_r N  _ hσ) (congrArg (Reader_readClass_b0 N) rfl)
def zReader_addAssertion_b0 (N : Nat) (x1 : Int) (x2 : Int) (σ : z_S) : Option (Int × z_S) := (zProgram_addNode N x1 0 0 σ).bind fun q7 => (zReader_append N q7.1 q7.1 q7.2).bind fun q14 => if zin ((q14.2.1 12) + x2) then some (0, (zF q14.2 12 ((q14.2.1 12) + x2))) else none
theorem zReader_addAssertion_b0_r (N : Nat) (x1 : Int) (hx1 : zin x1) (x2 : Int) (hx2 : zin x2) (σ : z_S) (hσ : zR σ) : zrel (zReader_addAssertion_b0 N x1 x2 σ) (Reader_addAssertion_b0 N (zI x1) (zI x2) (zo σ)) := by
  unfold zReader_addAssertion_b0 Reader_addAssertion_b0
  refine zr_bind (zr_of (zProgram_addNode_r N _ hx1 _ (by decide) _ (by decide) _ hσ) (congr (congr (congr (congrArg (Program_addNode N) rfl) (zl_0)) (zl_0)) rfl)) (fun r7 s7σ hr7 hs7 => ?_)
  dsimp only
  refine zr_bind (zr_of (zReader_append_r N _ hr7 _ hr7 _ hs7) (congr (congr (congrArg (Reader_append N) rfl) rfl) rfl)) (fun r14 s14σ hr14 hs14 => ?_)
  dsimp only
  refine zr_g (fun g1 => ?_)
  exact zr_some (zl_0) (by decide) (zo_F (k := 12) rfl (zI_add (zo_fld rfl 12) rfl)) (zR_F (k := 12) hs14 g1)
def zReader_addAssertion (N : Nat) (x1 : Int) (x2 : Int) (σ : z_S) : Option (Int × z_S) := zReader_addAssertion_b0 N x1 x2 σ
theorem zReader_addAssertion_r (N : Nat) (x1 : Int) (hx1 : zin x1) (x2 : Int) (hx2 : zin x2) (σ : z_S) (hσ : zR σ) : zrel (zReader_addAssertion N x1 x2 σ) (Reader_addAssertion N (zI x1) (zI x2) (zo σ)) := by
  unfold zReader_addAssertion Reader_addAssertion
  exact zr_of (zReader_addAssertion_b0_r N _ hx1 _ hx2 _ hσ) (congr (congr (congrArg (Reader_addAssertion_b0 N) rfl) rfl) rfl)
def zReader_readNumber_b86 (N : Nat) (x1 : Int) (σ : z_S) : Option (Int × z_S) := some (x1, σ)
theorem zReader_readNumber_b86_r (N : Nat) (x1 : Int) (hx1 : zin x1) (σ : z_S) (hσ : zR σ) : zrel (zReader_readNumber_b86 N x1 σ) (Reader_readNumber_b86 N (zI x1) (zo σ)) := by
  unfold zReader_readNumber_b86 Reader_readNumber_b86
  exact zr_some rfl hx1 rfl hσ
def zReader_readNumber_b51 (N : Nat) (k26 : Int → z_S → Option (Int × z_S)) (x1 : Int) (σ : z_S) : Option (Int × z_S) := (zReader_unitAt N (σ.1 12) σ).bind fun q60 => if zin (x1 * 10) then if zin ((x1 * 10) + q60.1) then if zin (((x1 * 10) + q60.1) - 48) then if zin ((q60.2.1 12) + 1) then k26 (if 100000 < (((x1 * 10) + q60.1) - 48) then 100000 else (((x1 * 10) + q60.1) - 48)) (zF q60.2 12 ((q60.2.1 12) + 1)) else none else none else none else none
theorem zReader_readNumber_b51_r (N : Nat) (k26 : Int → z_S → Option (Int × z_S)) (k26' : Int32 → g_S → Option (Int32 × g_S)) (hk26 : ∀ (y0 : Int) (_ : zin y0) (σ : z_S), zR σ → zrel (k26 y0 σ) (k26' (zI y0) (zo σ))) (x1 : Int) (hx1 : zin x1) (σ : z_S) (hσ : zR σ) : zrel (zReader_readNumber_b51 N k26 x1 σ) (Reader_readNumber_b51 N k26' (zI x1) (zo σ)) := by
  unfold zReader_readNumber_b51 Reader_readNumber_b51
  refine zr_bind (zr_of (zReader_unitAt_r N _ (hσ.1 12) _ hσ) (congr (congrArg (Reader_unitAt N) (zo_fld rfl 12)) rfl)) (fun r60 s60σ hr60 hs60 => ?_)
  dsimp only
  refine zr_g (fun g1 => ?_)
  refine zr_g (fun g2 => ?_)
  refine zr_g (fun g3 => ?_)
  refine zr_g (fun g4 => ?_)
  exact zr_of (hk26 _ (zin_ite (by decide) g3) _ (zR_F (k := 12) hs60 g4)) (congr (congrArg (k26') (zI_ite (zl_100000) (zI_sub (zI_add (zI_mul rfl (zl_10)) rfl) (zl_48)) (by decide) g3 (zl_100000) (zI_sub (zI_add (zI_mul rfl (zl_10)) rfl) (zl_48)))) (zo_F (k := 12) rfl (zI_add (zo_fld rfl 12) (zl_1))))
def zReader_readNumber_b37 (N : Nat) (k26 : Int → z_S → Option (Int × z_S)) (x1 : Int) (σ : z_S) : Option (Int × z_S) := (zReader_unitAt N (σ.1 12) σ).bind fun q42 => (zUnits_isDigit N q42.1 q42.2).bind fun q45 => if q45.1 = 0 then zReader_readNumber_b86 N x1 q45.2 else zReader_readNumber_b51 N k26 x1 q45.2
theorem zReader_readNumber_b37_r (N : Nat) (k26 : Int → z_S → Option (Int × z_S)) (k26' : Int32 → g_S → Option (Int32 × g_S)) (hk26 : ∀ (y0 : Int) (_ : zin y0) (σ : z_S), zR σ → zrel (k26 y0 σ) (k26' (zI y0) (zo σ))) (x1 : Int) (hx1 : zin x1) (σ : z_S) (hσ : zR σ) : zrel (zReader_readNumber_b37 N k26 x1 σ) (Reader_readNumber_b37 N k26' (zI x1) (zo σ)) := by
  unfold zReader_readNumber_b37 Reader_readNumber_b37
  refine zr_bind (zr_of (zReader_unitAt_r N _ (hσ.1 12) _ hσ) (congr (congrArg (Reader_unitAt N) (zo_fld rfl 12)) rfl)) (fun r42 s42σ hr42 hs42 => ?_)
  dsimp only
  refine zr_bind (zr_of (zUnits_isDigit_r N _ hr42 _ hs42) (congr (congrArg (Units_isDigit N) rfl) rfl)) (fun r45 s45σ hr45 hs45 => ?_)
  dsimp only
  refine zr_ite (zI_eq rfl (zl_0) hr45 (by decide)) ?_ ?_
  · exact zr_of (zReader_readNumber_b86_r N _ hx1 _ hs45) (congr (congrArg (Reader_readNumber_b86 N) rfl) rfl)
  · exact zr_of (zReader_readNumber_b51_r N k26 k26' hk26 _ hx1 _ hs45) (congr (congrArg (Reader_readNumber_b51 N k26') rfl) rfl)
def zReader_readNumber_b26 (N : Nat) (k26 : Int → z_S → Option (Int × z_S)) (x1 : Int) (σ : z_S) : Option (Int × z_S) := if (σ.1 11) ≤ (σ.1 12) then zReader_readNumber_b86 N x1 σ else zReader_readNumber_b37 N k26 x1 σ
theorem zReader_readNumber_b26_r (N : Nat) (k26 : Int → z_S → Option (Int × z_S)) (k26' : Int32 → g_S → Option (Int32 × g_S)) (hk26 : ∀ (y0 : Int) (_ : zin y0) (σ : z_S), zR σ → zrel (k26 y0 σ) (k26' (zI y0) (zo σ))) (x1 : Int) (hx1 : zin x1) (σ : z_S) (hσ : zR σ) : zrel (zReader_readNumber_b26 N k26 x1 σ) (Reader_readNumber_b26 N k26' (zI x1) (zo σ)) := by
  unfold zReader_readNumber_b26 Reader_readNumber_b26
  refine zr_ite (zI_le (zo_fld rfl 11) (zo_fld rfl 12) (hσ.1 11) (hσ.1 12)) ?_ ?_
  · exact zr_of (zReader_readNumber_b86_r N _ hx1 _ hσ) (congr (congrArg (Reader_readNumber_b86 N) rfl) rfl)
  · exact zr_of (zReader_readNumber_b37_r N k26 k26' hk26 _ hx1 _ hσ) (congr (congrArg (Reader_readNumber_b37 N k26') rfl) rfl)
def zReader_readNumber_l26 (N : Nat) : Nat → Int → z_S → Option (Int × z_S)
  | 0 => fun _ _ => none
  | n + 1 => fun x1 σ => zReader_readNumber_b26 N (zReader_readNumber_l26 N n) x1 σ
theorem zReader_readNumber_l26_r (N : Nat) (n : Nat) : ∀ (x1 : Int) (hx1 : zin x1) (σ : z_S) (_ : zR σ), zrel (zReader_readNumber_l26 N n x1 σ) (Reader_readNumber_l26 N n (zI x1) (zo σ)) := by
  induction n with
  | zero => intro x1 hx1 σ hσ r s h; cases h
  | succ n ih => intro x1 hx1 σ hσ; exact zReader_readNumber_b26_r N _ _ (fun x1 hx1 σ hσ => ih x1 hx1 σ hσ) x1 hx1 σ hσ
def zReader_readNumber_b24 (N : Nat) (σ : z_S) : Option (Int × z_S) := zReader_readNumber_l26 N N 0 σ
theorem zReader_readNumber_b24_r (N : Nat) (σ : z_S) (hσ : zR σ) : zrel (zReader_readNumber_b24 N σ) (Reader_readNumber_b24 N (zo σ)) := by
  unfold zReader_readNumber_b24 Reader_readNumber_b24
  exact zr_of (zReader_readNumber_l26_r N N _ (by decide) _ hσ) (congr (congrArg (Reader_readNumber_l26 N N) (zl_0)) rfl)
def zReader_readNumber_b14 (N : Nat) (σ : z_S) : Option (Int × z_S) := some (0, (zF σ 13 (σ.1 12)))
theorem zReader_readNumber_b14_r (N : Nat) (σ : z_S) (hσ : zR σ) : zrel (zReader_readNumber_b14 N σ) (Reader_readNumber_b14 N (zo σ)) := by
  unfold zReader_readNumber_b14 Reader_readNumber_b14
  exact zr_some (zl_0) (by decide) (zo_F (k := 13) rfl (zo_fld rfl 12)) (zR_F (k := 13) hσ (hσ.1 12))
def zReader_readNumber_b0 (N : Nat) (σ : z_S) : Option (Int × z_S) := (zReader_unitAt N (σ.1 12) σ).bind fun q5 => (zUnits_isDigit N q5.1 q5.2).bind fun q8 => if q8.1 = 0 then zReader_readNumber_b14 N q8.2 else zReader_readNumber_b24 N q8.2
theorem zReader_readNumber_b0_r (N : Nat) (σ : z_S) (hσ : zR σ) : zrel (zReader_readNumber_b0 N σ) (Reader_readNumber_b0 N (zo σ)) := by
  unfold zReader_readNumber_b0 Reader_readNumber_b0
  refine zr_bind (zr_of (zReader_unitAt_r N _ (hσ.1 12) _ hσ) (congr (congrArg (Reader_unitAt N) (zo_fld rfl 12)) rfl)) (fun r5 s5σ hr5 hs5 => ?_)
  dsimp only
  refine zr_bind (zr_of (zUnits_isDigit_r N _ hr5 _ hs5) (congr (congrArg (Units_isDigit N) rfl) rfl)) (fun r8 s8σ hr8 hs8 => ?_)
  dsimp only
  refine zr_ite (zI_eq rfl (zl_0) hr8 (by decide)) ?_ ?_
  · exact zr_of (zReader_readNumber_b14_r N  _ hs8) (congrArg (Reader_readNumber_b14 N) rfl)
  · exact zr_of (zReader_readNumber_b24_r N  _ hs8) (congrArg (Reader_readNumber_b24 N) rfl)
def zReader_readNumber (N : Nat) (σ : z_S) : Option (Int × z_S) := zReader_readNumber_b0 N σ
theorem zReader_readNumber_r (N : Nat) (σ : z_S) (hσ : zR σ) : zrel (zReader_readNumber N σ) (Reader_readNumber N (zo σ)) := by
  unfold zReader_readNumber Reader_readNumber
  exact zr_of (zReader_readNumber_b0_r N  _ hσ) (congrArg (Reader_readNumber_b0 N) rfl)
def zReader_readBackslash_b114 (N : Nat) (σ : z_S) : Option (Int × z_S) := some (0, σ)
theorem zReader_readBackslash_b114_r (N : Nat) (σ : z_S) (hσ : zR σ) : zrel (zReader_readBackslash_b114 N σ) (Reader_readBackslash_b114 N (zo σ)) := by
  unfold zReader_readBackslash_b114 Reader_readBackslash_b114
  exact zr_some (zl_0) (by decide) rfl hσ
def zReader_readBackslash_b109 (N : Nat) (x2 : Int) (s1 : Int) (σ : z_S) : Option (Int × z_S) := (zReader_addAtom N s1 x2 0 σ).bind fun q111 => zReader_readBackslash_b114 N q111.2
theorem zReader_readBackslash_b109_r (N : Nat) (x2 : Int) (hx2 : zin x2) (s1 : Int) (hs1 : zin s1) (σ : z_S) (hσ : zR σ) : zrel (zReader_readBackslash_b109 N x2 s1 σ) (Reader_readBackslash_b109 N (zI x2) (zI s1) (zo σ)) := by
  unfold zReader_readBackslash_b109 Reader_readBackslash_b109
  refine zr_bind (zr_of (zReader_addAtom_r N _ hs1 _ hx2 _ (by decide) _ hσ) (congr (congr (congr (congrArg (Reader_addAtom N) rfl) rfl) (zl_0)) rfl)) (fun r111 s111σ hr111 hs111 => ?_)
  dsimp only
  exact zr_of (zReader_readBackslash_b114_r N  _ hs111) (congrArg (Reader_readBackslash_b114 N) rfl)
def zReader_readBackslash_b108 (N : Nat) (x2 : Int) (σ : z_S) : Option (Int × z_S) := zReader_readBackslash_b109 N x2 1 σ
theorem zReader_readBackslash_b108_r (N : Nat) (x2 : Int) (hx2 : zin x2) (σ : z_S) (hσ : zR σ) : zrel (zReader_readBackslash_b108 N x2 σ) (Reader_readBackslash_b108 N (zI x2) (zo σ)) := by
  unfold zReader_readBackslash_b108 Reader_readBackslash_b108
  exact zr_of (zReader_readBackslash_b109_r N _ hx2 _ (by decide) _ hσ) (congr (congr (congrArg (Reader_readBackslash_b109 N) rfl) (zl_1)) rfl)
def zReader_readBackslash_b104 (N : Nat) (x2 : Int) (σ : z_S) : Option (Int × z_S) := zReader_readBackslash_b109 N x2 3 σ
theorem zReader_readBackslash_b104_r (N : Nat) (x2 : Int) (hx2 : zin x2) (σ : z_S) (hσ : zR σ) : zrel (zReader_readBackslash_b104 N x2 σ) (Reader_readBackslash_b104 N (zI x2) (zo σ)) := by
  unfold zReader_readBackslash_b104 Reader_readBackslash_b104
  exact zr_of (zReader_readBackslash_b109_r N _ hx2 _ (by decide) _ hσ) (congr (congr (congrArg (Reader_readBackslash_b109 N) rfl) (zl_3)) rfl)
def zReader_readBackslash_b97 (N : Nat) (x2 : Int) (σ : z_S) : Option (Int × z_S) := if x2 < 65536 then zReader_readBackslash_b108 N x2 σ else zReader_readBackslash_b104 N x2 σ
theorem zReader_readBackslash_b97_r (N : Nat) (x2 : Int) (hx2 : zin x2) (σ : z_S) (hσ : zR σ) : zrel (zReader_readBackslash_b97 N x2 σ) (Reader_readBackslash_b97 N (zI x2) (zo σ)) := by
  unfold zReader_readBackslash_b97 Reader_readBackslash_b97
  refine zr_ite (zI_lt rfl (zl_65536) hx2 (by decide)) ?_ ?_
  · exact zr_of (zReader_readBackslash_b108_r N _ hx2 _ hσ) (congr (congrArg (Reader_readBackslash_b108 N) rfl) rfl)
  · exact zr_of (zReader_readBackslash_b104_r N _ hx2 _ hσ) (congr (congrArg (Reader_readBackslash_b104 N) rfl) rfl)
def zReader_readBackslash_b85 (N : Nat) (σ : z_S) : Option (Int × z_S) := (zReader_readEscape N σ).bind fun q86 => if (0 : Int) ≤ (q86.2.1 13) then zReader_readBackslash_b114 N q86.2 else zReader_readBackslash_b97 N q86.1 q86.2
theorem zReader_readBackslash_b85_r (N : Nat) (σ : z_S) (hσ : zR σ) : zrel (zReader_readBackslash_b85 N σ) (Reader_readBackslash_b85 N (zo σ)) := by
  unfold zReader_readBackslash_b85 Reader_readBackslash_b85
  refine zr_bind (zr_of (zReader_readEscape_r N  _ hσ) (congrArg (Reader_readEscape N) rfl)) (fun r86 s86σ hr86 hs86 => ?_)
  dsimp only
  refine zr_ite (zI_le (zl_0) (zo_fld rfl 13) (by decide) (hs86.1 13)) ?_ ?_
  · exact zr_of (zReader_readBackslash_b114_r N  _ hs86) (congrArg (Reader_readBackslash_b114 N) rfl)
  · exact zr_of (zReader_readBackslash_b97_r N _ hr86 _ hs86) (congr (congrArg (Reader_readBackslash_b97 N) rfl) rfl)
def zReader_readBackslash_b56 (N : Nat) (σ : z_S) : Option (Int × z_S) := if zin ((σ.1 12) + 1) then (zReader_readNumber N (zF σ 12 ((σ.1 12) + 1))).bind fun q75 => (zReader_addAtom N 6 q75.1 ((σ.1 12) + 1) q75.2).bind fun q79 => zReader_readBackslash_b114 N q79.2 else none
theorem zReader_readBackslash_b56_r (N : Nat) (σ : z_S) (hσ : zR σ) : zrel (zReader_readBackslash_b56 N σ) (Reader_readBackslash_b56 N (zo σ)) := by
  unfold zReader_readBackslash_b56 Reader_readBackslash_b56
  refine zr_g (fun g1 => ?_)
  refine zr_bind (zr_of (zReader_readNumber_r N  _ (zR_F (k := 12) hσ g1)) (congrArg (Reader_readNumber N) (zo_F (k := 12) rfl (zI_add (zo_fld rfl 12) (zl_1))))) (fun r75 s75σ hr75 hs75 => ?_)
  dsimp only
  refine zr_bind (zr_of (zReader_addAtom_r N _ (by decide) _ hr75 _ g1 _ hs75) (congr (congr (congr (congrArg (Reader_addAtom N) (zl_6)) rfl) (zI_add (zo_fld rfl 12) (zl_1))) rfl)) (fun r79 s79σ hr79 hs79 => ?_)
  dsimp only
  exact zr_of (zReader_readBackslash_b114_r N  _ hs79) (congrArg (Reader_readBackslash_b114 N) rfl)
def zReader_readBackslash_b50 (N : Nat) (x1 : Int) (σ : z_S) : Option (Int × z_S) := if x1 = 48 then zReader_readBackslash_b85 N σ else zReader_readBackslash_b56 N σ
theorem zReader_readBackslash_b50_r (N : Nat) (x1 : Int) (hx1 : zin x1) (σ : z_S) (hσ : zR σ) : zrel (zReader_readBackslash_b50 N x1 σ) (Reader_readBackslash_b50 N (zI x1) (zo σ)) := by
  unfold zReader_readBackslash_b50 Reader_readBackslash_b50
  refine zr_ite (zI_eq rfl (zl_48) hx1 (by decide)) ?_ ?_
  · exact zr_of (zReader_readBackslash_b85_r N  _ hσ) (congrArg (Reader_readBackslash_b85 N) rfl)
  · exact zr_of (zReader_readBackslash_b56_r N  _ hσ) (congrArg (Reader_readBackslash_b56 N) rfl)
def zReader_readBackslash_b43 (N : Nat) (x1 : Int) (σ : z_S) : Option (Int × z_S) := (zUnits_isDigit N x1 σ).bind fun q44 => if q44.1 = 0 then zReader_readBackslash_b85 N q44.2 else zReader_readBackslash_b50 N x1 q44.2
theorem zReader_readBackslash_b43_r (N : Nat) (x1 : Int) (hx1 : zin x1) (σ : z_S) (hσ : zR σ) : zrel (zReader_readBackslash_b43 N x1 σ) (Reader_readBackslash_b43 N (zI x1) (zo σ)) := by
  unfold zReader_readBackslash_b43 Reader_readBackslash_b43
  refine zr_bind (zr_of (zUnits_isDigit_r N _ hx1 _ hσ) (congr (congrArg (Units_isDigit N) rfl) rfl)) (fun r44 s44σ hr44 hs44 => ?_)
  dsimp only
  refine zr_ite (zI_eq rfl (zl_0) hr44 (by decide)) ?_ ?_
  · exact zr_of (zReader_readBackslash_b85_r N  _ hs44) (congrArg (Reader_readBackslash_b85 N) rfl)
  · exact zr_of (zReader_readBackslash_b50_r N _ hx1 _ hs44) (congr (congrArg (Reader_readBackslash_b50 N) rfl) rfl)
def zReader_readBackslash_b33 (N : Nat) (σ : z_S) : Option (Int × z_S) := (zReader_addAssertion N 10 2 σ).bind fun q37 => zReader_readBackslash_b114 N q37.2
theorem zReader_readBackslash_b33_r (N : Nat) (σ : z_S) (hσ : zR σ) : zrel (zReader_readBackslash_b33 N σ) (Reader_readBackslash_b33 N (zo σ)) := by
  unfold zReader_readBackslash_b33 Reader_readBackslash_b33
  refine zr_bind (zr_of (zReader_addAssertion_r N _ (by decide) _ (by decide) _ hσ) (congr (congr (congrArg (Reader_addAssertion N) (zl_10)) (zl_2)) rfl)) (fun r37 s37σ hr37 hs37 => ?_)
  dsimp only
  exact zr_of (zReader_readBackslash_b114_r N  _ hs37) (congrArg (Reader_readBackslash_b114 N) rfl)
def zReader_readBackslash_b27 (N : Nat) (x1 : Int) (σ : z_S) : Option (Int × z_S) := if x1 = 66 then zReader_readBackslash_b33 N σ else zReader_readBackslash_b43 N x1 σ
theorem zReader_readBackslash_b27_r (N : Nat) (x1 : Int) (hx1 : zin x1) (σ : z_S) (hσ : zR σ) : zrel (zReader_readBackslash_b27 N x1 σ) (Reader_readBackslash_b27 N (zI x1) (zo σ)) := by
  unfold zReader_readBackslash_b27 Reader_readBackslash_b27
  refine zr_ite (zI_eq rfl (zl_66) hx1 (by decide)) ?_ ?_
  · exact zr_of (zReader_readBackslash_b33_r N  _ hσ) (congrArg (Reader_readBackslash_b33 N) rfl)
  · exact zr_of (zReader_readBackslash_b43_r N _ hx1 _ hσ) (congr (congrArg (Reader_readBackslash_b43 N) rfl) rfl)
def zReader_readBackslash_b17 (N : Nat) (σ : z_S) : Option (Int × z_S) := (zReader_addAssertion N 9 2 σ).bind fun q21 => zReader_readBackslash_b114 N q21.2
theorem zReader_readBackslash_b17_r (N : Nat) (σ : z_S) (hσ : zR σ) : zrel (zReader_readBackslash_b17 N σ) (Reader_readBackslash_b17 N (zo σ)) := by
  unfold zReader_readBackslash_b17 Reader_readBackslash_b17
  refine zr_bind (zr_of (zReader_addAssertion_r N _ (by decide) _ (by decide) _ hσ) (congr (congr (congrArg (Reader_addAssertion N) (zl_9)) (zl_2)) rfl)) (fun r21 s21σ hr21 hs21 => ?_)
  dsimp only
  exact zr_of (zReader_readBackslash_b114_r N  _ hs21) (congrArg (Reader_readBackslash_b114 N) rfl)
def zReader_readBackslash_b0 (N : Nat) (σ : z_S) : Option (Int × z_S) := if zin ((σ.1 12) + 1) then (zReader_unitAt N ((σ.1 12) + 1) σ).bind fun q7 => if q7.1 = 98 then zReader_readBackslash_b17 N q7.2 else zReader_readBackslash_b27 N q7.1 q7.2 else none
theorem zReader_readBackslash_b0_r (N : Nat) (σ : z_S) (hσ : zR σ) : zrel (zReader_readBackslash_b0 N σ) (Reader_readBackslash_b0 N (zo σ)) := by
  unfold zReader_readBackslash_b0 Reader_readBackslash_b0
  refine zr_g (fun g1 => ?_)
  refine zr_bind (zr_of (zReader_unitAt_r N _ g1 _ hσ) (congr (congrArg (Reader_unitAt N) (zI_add (zo_fld rfl 12) (zl_1))) rfl)) (fun r7 s7σ hr7 hs7 => ?_)
  dsimp only
  refine zr_ite (zI_eq rfl (zl_98) hr7 (by decide)) ?_ ?_
  · exact zr_of (zReader_readBackslash_b17_r N  _ hs7) (congrArg (Reader_readBackslash_b17 N) rfl)
  · exact zr_of (zReader_readBackslash_b27_r N _ hr7 _ hs7) (congr (congrArg (Reader_readBackslash_b27 N) rfl) rfl)
def zReader_readBackslash (N : Nat) (σ : z_S) : Option (Int × z_S) := zReader_readBackslash_b0 N σ
theorem zReader_readBackslash_r (N : Nat) (σ : z_S) (hσ : zR σ) : zrel (zReader_readBackslash N σ) (Reader_readBackslash N (zo σ)) := by
  unfold zReader_readBackslash Reader_readBackslash
  exact zr_of (zReader_readBackslash_b0_r N  _ hσ) (congrArg (Reader_readBackslash_b0 N) rfl)
