def zReader_unitAt_b31 (N : Nat) (s0 : Int) (σ : z_S) : Option (Int × z_S) := some (s0, σ)
theorem zReader_unitAt_b31_r (N : Nat) (s0 : Int) (hs0 : zin s0) (σ : z_S) (hσ : zR σ) : zrel (zReader_unitAt_b31 N s0 σ) (Reader_unitAt_b31 N (zI s0) (zo σ)) := by
  unfold zReader_unitAt_b31 Reader_unitAt_b31
  exact zr_some rfl hs0 rfl hσ
def zReader_unitAt_b30 (N : Nat) (σ : z_S) : Option (Int × z_S) := zReader_unitAt_b31 N (-1) σ
theorem zReader_unitAt_b30_r (N : Nat) (σ : z_S) (hσ : zR σ) : zrel (zReader_unitAt_b30 N σ) (Reader_unitAt_b30 N (zo σ)) := by
  unfold zReader_unitAt_b30 Reader_unitAt_b30
  exact zr_of (zReader_unitAt_b31_r N _ (by decide) _ hσ) (congr (congrArg (Reader_unitAt_b31 N) (zl_m1)) rfl)
def zReader_unitAt_b21 (N : Nat) (x1 : Int) (σ : z_S) : Option (Int × z_S) := if zIn x1 600 then zReader_unitAt_b31 N (σ.2 0 (x1).toNat) σ else none
theorem zReader_unitAt_b21_r (N : Nat) (x1 : Int) (hx1 : zin x1) (σ : z_S) (hσ : zR σ) : zrel (zReader_unitAt_b21 N x1 σ) (Reader_unitAt_b21 N (zI x1) (zo σ)) := by
  unfold zReader_unitAt_b21 Reader_unitAt_b21
  refine zr_gg (zg_in rfl hx1) (fun g1 => ?_)
  exact zr_of (zReader_unitAt_b31_r N _ (hσ.2 0 _) _ hσ) (congr (congrArg (Reader_unitAt_b31 N) (zo_get (j := 0) rfl rfl hx1)) rfl)
def zReader_unitAt_b12 (N : Nat) (x1 : Int) (σ : z_S) : Option (Int × z_S) := if (600 : Int) ≤ x1 then zReader_unitAt_b30 N σ else zReader_unitAt_b21 N x1 σ
theorem zReader_unitAt_b12_r (N : Nat) (x1 : Int) (hx1 : zin x1) (σ : z_S) (hσ : zR σ) : zrel (zReader_unitAt_b12 N x1 σ) (Reader_unitAt_b12 N (zI x1) (zo σ)) := by
  unfold zReader_unitAt_b12 Reader_unitAt_b12
  refine zr_ite (zI_le (zI_len (n := lenC 0)) rfl (zin_nat (lenC_lt 0)) hx1) ?_ ?_
  · exact zr_of (zReader_unitAt_b30_r N  _ hσ) (congrArg (Reader_unitAt_b30 N) rfl)
  · exact zr_of (zReader_unitAt_b21_r N _ hx1 _ hσ) (congr (congrArg (Reader_unitAt_b21 N) rfl) rfl)
def zReader_unitAt_b4 (N : Nat) (x1 : Int) (σ : z_S) : Option (Int × z_S) := if (σ.1 11) ≤ x1 then zReader_unitAt_b30 N σ else zReader_unitAt_b12 N x1 σ
theorem zReader_unitAt_b4_r (N : Nat) (x1 : Int) (hx1 : zin x1) (σ : z_S) (hσ : zR σ) : zrel (zReader_unitAt_b4 N x1 σ) (Reader_unitAt_b4 N (zI x1) (zo σ)) := by
  unfold zReader_unitAt_b4 Reader_unitAt_b4
  refine zr_ite (zI_le (zo_fld rfl 11) rfl (hσ.1 11) hx1) ?_ ?_
  · exact zr_of (zReader_unitAt_b30_r N  _ hσ) (congrArg (Reader_unitAt_b30 N) rfl)
  · exact zr_of (zReader_unitAt_b12_r N _ hx1 _ hσ) (congr (congrArg (Reader_unitAt_b12 N) rfl) rfl)
def zReader_unitAt_b0 (N : Nat) (x1 : Int) (σ : z_S) : Option (Int × z_S) := if x1 < 0 then zReader_unitAt_b30 N σ else zReader_unitAt_b4 N x1 σ
theorem zReader_unitAt_b0_r (N : Nat) (x1 : Int) (hx1 : zin x1) (σ : z_S) (hσ : zR σ) : zrel (zReader_unitAt_b0 N x1 σ) (Reader_unitAt_b0 N (zI x1) (zo σ)) := by
  unfold zReader_unitAt_b0 Reader_unitAt_b0
  refine zr_ite (zI_lt rfl (zl_0) hx1 (by decide)) ?_ ?_
  · exact zr_of (zReader_unitAt_b30_r N  _ hσ) (congrArg (Reader_unitAt_b30 N) rfl)
  · exact zr_of (zReader_unitAt_b4_r N _ hx1 _ hσ) (congr (congrArg (Reader_unitAt_b4 N) rfl) rfl)
def zReader_unitAt (N : Nat) (x1 : Int) (σ : z_S) : Option (Int × z_S) := zReader_unitAt_b0 N x1 σ
theorem zReader_unitAt_r (N : Nat) (x1 : Int) (hx1 : zin x1) (σ : z_S) (hσ : zR σ) : zrel (zReader_unitAt N x1 σ) (Reader_unitAt N (zI x1) (zo σ)) := by
  unfold zReader_unitAt Reader_unitAt
  exact zr_of (zReader_unitAt_b0_r N _ hx1 _ hσ) (congr (congrArg (Reader_unitAt_b0 N) rfl) rfl)
def zReader_readBar_b26 (N : Nat) (s0 : Int) (σ : z_S) : Option (Int × z_S) := (zProgram_link N (σ.1 16) s0 σ).bind fun q36 => (zReader_beginAlternative N q36.2).bind fun q45 => (zRows_write N 3 (q36.2.1 15) (q45.2.1 15) q45.2).bind fun q60 => if zin ((q60.2.1 12) + 1) then some (0, (zF q60.2 12 ((q60.2.1 12) + 1))) else none
theorem zReader_readBar_b26_r (N : Nat) (s0 : Int) (hs0 : zin s0) (σ : z_S) (hσ : zR σ) : zrel (zReader_readBar_b26 N s0 σ) (Reader_readBar_b26 N (zI s0) (zo σ)) := by
  unfold zReader_readBar_b26 Reader_readBar_b26
  refine zr_bind (zr_of (zProgram_link_r N _ (hσ.1 16) _ hs0 _ hσ) (congr (congr (congrArg (Program_link N) (zo_fld rfl 16)) rfl) rfl)) (fun r36 s36σ hr36 hs36 => ?_)
  dsimp only
  refine zr_bind (zr_of (zReader_beginAlternative_r N  _ hs36) (congrArg (Reader_beginAlternative N) rfl)) (fun r45 s45σ hr45 hs45 => ?_)
  dsimp only
  refine zr_bind (zr_of (zRows_write_r N 3 _ (hs36.1 15) _ (hs45.1 15) _ hs45) (congr (congr (congrArg (Rows_write N 3) (zo_fld rfl 15)) (zo_fld rfl 15)) rfl)) (fun r60 s60σ hr60 hs60 => ?_)
  dsimp only
  refine zr_g (fun g1 => ?_)
  exact zr_some (zl_0) (by decide) (zo_F (k := 12) rfl (zI_add (zo_fld rfl 12) (zl_1))) (zR_F (k := 12) hs60 g1)
def zReader_readBar_b25 (N : Nat) (σ : z_S) : Option (Int × z_S) := zReader_readBar_b26 N 0 σ
theorem zReader_readBar_b25_r (N : Nat) (σ : z_S) (hσ : zR σ) : zrel (zReader_readBar_b25 N σ) (Reader_readBar_b25 N (zo σ)) := by
  unfold zReader_readBar_b25 Reader_readBar_b25
  exact zr_of (zReader_readBar_b26_r N _ (by decide) _ hσ) (congr (congrArg (Reader_readBar_b26 N) (zl_0)) rfl)
def zReader_readBar_b7 (N : Nat) (σ : z_S) : Option (Int × z_S) := if zin ((σ.1 14) - 1) then (zRows_read N 13 ((σ.1 14) - 1) σ).bind fun q17 => if zin (q17.1 + 1) then zReader_readBar_b26 N (q17.1 + 1) q17.2 else none else none
theorem zReader_readBar_b7_r (N : Nat) (σ : z_S) (hσ : zR σ) : zrel (zReader_readBar_b7 N σ) (Reader_readBar_b7 N (zo σ)) := by
  unfold zReader_readBar_b7 Reader_readBar_b7
  refine zr_g (fun g1 => ?_)
  refine zr_bind (zr_of (zRows_read_r N 13 _ g1 _ hσ) (congr (congrArg (Rows_read N 13) (zI_sub (zo_fld rfl 14) (zl_1))) rfl)) (fun r17 s17σ hr17 hs17 => ?_)
  dsimp only
  refine zr_g (fun g2 => ?_)
  exact zr_of (zReader_readBar_b26_r N _ g2 _ hs17) (congr (congrArg (Reader_readBar_b26 N) (zI_add rfl (zl_1))) rfl)
def zReader_readBar_b0 (N : Nat) (σ : z_S) : Option (Int × z_S) := if (σ.1 14) ≤ 0 then zReader_readBar_b25 N σ else zReader_readBar_b7 N σ
theorem zReader_readBar_b0_r (N : Nat) (σ : z_S) (hσ : zR σ) : zrel (zReader_readBar_b0 N σ) (Reader_readBar_b0 N (zo σ)) := by
  unfold zReader_readBar_b0 Reader_readBar_b0
  refine zr_ite (zI_le (zo_fld rfl 14) (zl_0) (hσ.1 14) (by decide)) ?_ ?_
  · exact zr_of (zReader_readBar_b25_r N  _ hσ) (congrArg (Reader_readBar_b25 N) rfl)
  · exact zr_of (zReader_readBar_b7_r N  _ hσ) (congrArg (Reader_readBar_b7 N) rfl)
def zReader_readBar (N : Nat) (σ : z_S) : Option (Int × z_S) := zReader_readBar_b0 N σ
theorem zReader_readBar_r (N : Nat) (σ : z_S) (hσ : zR σ) : zrel (zReader_readBar N σ) (Reader_readBar N (zo σ)) := by
  unfold zReader_readBar Reader_readBar
  exact zr_of (zReader_readBar_b0_r N  _ hσ) (congrArg (Reader_readBar_b0 N) rfl)
def zReader_openParenthesis_b0 (N : Nat) (x1 : Int) (x2 : Int) (σ : z_S) : Option (Int × z_S) := (zProgram_addNode N x1 x2 0 σ).bind fun q7 => if zin (x1 + 1) then (zProgram_addNode N (x1 + 1) x2 0 q7.2).bind fun q20 => (zRows_write N 13 (q20.2.1 14) q7.1 q20.2).bind fun q33 => (zRows_write N 14 (q33.2.1 14) (q33.2.1 16) q33.2).bind fun q48 => (zRows_write N 15 (q48.2.1 14) (q48.2.1 15) q48.2).bind fun q63 => (zRows_write N 16 (q63.2.1 14) (q63.2.1 8) q63.2).bind fun q81 => if zin ((q81.2.1 14) + 1) then (zReader_beginAlternative N (zF q81.2 14 ((q81.2.1 14) + 1))).bind fun q95 => (zProgram_link N q7.1 (q95.2.1 15) q95.2).bind fun q107 => some (0, q107.2) else none else none
theorem zReader_openParenthesis_b0_r (N : Nat) (x1 : Int) (hx1 : zin x1) (x2 : Int) (hx2 : zin x2) (σ : z_S) (hσ : zR σ) : zrel (zReader_openParenthesis_b0 N x1 x2 σ) (Reader_openParenthesis_b0 N (zI x1) (zI x2) (zo σ)) := by
  unfold zReader_openParenthesis_b0 Reader_openParenthesis_b0
  refine zr_bind (zr_of (zProgram_addNode_r N _ hx1 _ hx2 _ (by decide) _ hσ) (congr (congr (congr (congrArg (Program_addNode N) rfl) rfl) (zl_0)) rfl)) (fun r7 s7σ hr7 hs7 => ?_)
  dsimp only
  refine zr_g (fun g1 => ?_)
  refine zr_bind (zr_of (zProgram_addNode_r N _ g1 _ hx2 _ (by decide) _ hs7) (congr (congr (congr (congrArg (Program_addNode N) (zI_add rfl (zl_1))) rfl) (zl_0)) rfl)) (fun r20 s20σ hr20 hs20 => ?_)
  dsimp only
  refine zr_bind (zr_of (zRows_write_r N 13 _ (hs20.1 14) _ hr7 _ hs20) (congr (congr (congrArg (Rows_write N 13) (zo_fld rfl 14)) rfl) rfl)) (fun r33 s33σ hr33 hs33 => ?_)
  dsimp only
  refine zr_bind (zr_of (zRows_write_r N 14 _ (hs33.1 14) _ (hs33.1 16) _ hs33) (congr (congr (congrArg (Rows_write N 14) (zo_fld rfl 14)) (zo_fld rfl 16)) rfl)) (fun r48 s48σ hr48 hs48 => ?_)
  dsimp only
  refine zr_bind (zr_of (zRows_write_r N 15 _ (hs48.1 14) _ (hs48.1 15) _ hs48) (congr (congr (congrArg (Rows_write N 15) (zo_fld rfl 14)) (zo_fld rfl 15)) rfl)) (fun r63 s63σ hr63 hs63 => ?_)
  dsimp only
  refine zr_bind (zr_of (zRows_write_r N 16 _ (hs63.1 14) _ (hs63.1 8) _ hs63) (congr (congr (congrArg (Rows_write N 16) (zo_fld rfl 14)) (zo_fld rfl 8)) rfl)) (fun r81 s81σ hr81 hs81 => ?_)
  dsimp only
  refine zr_g (fun g2 => ?_)
  refine zr_bind (zr_of (zReader_beginAlternative_r N  _ (zR_F (k := 14) hs81 g2)) (congrArg (Reader_beginAlternative N) (zo_F (k := 14) rfl (zI_add (zo_fld rfl 14) (zl_1))))) (fun r95 s95σ hr95 hs95 => ?_)
  dsimp only
  refine zr_bind (zr_of (zProgram_link_r N _ hr7 _ (hs95.1 15) _ hs95) (congr (congr (congrArg (Program_link N) rfl) (zo_fld rfl 15)) rfl)) (fun r107 s107σ hr107 hs107 => ?_)
  dsimp only
  exact zr_some (zl_0) (by decide) rfl hs107
def zReader_openParenthesis (N : Nat) (x1 : Int) (x2 : Int) (σ : z_S) : Option (Int × z_S) := zReader_openParenthesis_b0 N x1 x2 σ
theorem zReader_openParenthesis_r (N : Nat) (x1 : Int) (hx1 : zin x1) (x2 : Int) (hx2 : zin x2) (σ : z_S) (hσ : zR σ) : zrel (zReader_openParenthesis N x1 x2 σ) (Reader_openParenthesis N (zI x1) (zI x2) (zo σ)) := by
  unfold zReader_openParenthesis Reader_openParenthesis
  exact zr_of (zReader_openParenthesis_b0_r N _ hx1 _ hx2 _ hσ) (congr (congr (congrArg (Reader_openParenthesis_b0 N) rfl) rfl) rfl)
def zReader_readOpening_b46 (N : Nat) (σ : z_S) : Option (Int × z_S) := some (0, (zF σ 13 (σ.1 12)))
theorem zReader_readOpening_b46_r (N : Nat) (σ : z_S) (hσ : zR σ) : zrel (zReader_readOpening_b46 N σ) (Reader_readOpening_b46 N (zo σ)) := by
  unfold zReader_readOpening_b46 Reader_readOpening_b46
  exact zr_some (zl_0) (by decide) (zo_F (k := 13) rfl (zo_fld rfl 12)) (zR_F (k := 13) hσ (hσ.1 12))
def zReader_readOpening_b223 (N : Nat) (σ : z_S) : Option (Int × z_S) := if zin ((σ.1 12) + 3) then some (0, (zF σ 12 ((σ.1 12) + 3))) else none
theorem zReader_readOpening_b223_r (N : Nat) (σ : z_S) (hσ : zR σ) : zrel (zReader_readOpening_b223 N σ) (Reader_readOpening_b223 N (zo σ)) := by
  unfold zReader_readOpening_b223 Reader_readOpening_b223
  refine zr_g (fun g1 => ?_)
  exact zr_some (zl_0) (by decide) (zo_F (k := 12) rfl (zI_add (zo_fld rfl 12) (zl_3))) (zR_F (k := 12) hσ g1)
def zReader_readOpening_b183 (N : Nat) (σ : z_S) : Option (Int × z_S) := (zReader_openParenthesis N 21 (σ.1 7) σ).bind fun q193 => if zin ((q193.2.1 7) + 1) then zReader_readOpening_b223 N (zF q193.2 7 ((q193.2.1 7) + 1)) else none
theorem zReader_readOpening_b183_r (N : Nat) (σ : z_S) (hσ : zR σ) : zrel (zReader_readOpening_b183 N σ) (Reader_readOpening_b183 N (zo σ)) := by
  unfold zReader_readOpening_b183 Reader_readOpening_b183
  refine zr_bind (zr_of (zReader_openParenthesis_r N _ (by decide) _ (hσ.1 7) _ hσ) (congr (congr (congrArg (Reader_openParenthesis N) (zl_21)) (zo_fld rfl 7)) rfl)) (fun r193 s193σ hr193 hs193 => ?_)
  dsimp only
  refine zr_g (fun g1 => ?_)
  exact zr_of (zReader_readOpening_b223_r N  _ (zR_F (k := 7) hs193 g1)) (congrArg (Reader_readOpening_b223 N) (zo_F (k := 7) rfl (zI_add (zo_fld rfl 7) (zl_1))))
def zReader_readOpening_b144 (N : Nat) (σ : z_S) : Option (Int × z_S) := (zReader_openParenthesis N 17 0 σ).bind fun q148 => zReader_readOpening_b223 N q148.2
theorem zReader_readOpening_b144_r (N : Nat) (σ : z_S) (hσ : zR σ) : zrel (zReader_readOpening_b144 N σ) (Reader_readOpening_b144 N (zo σ)) := by
  unfold zReader_readOpening_b144 Reader_readOpening_b144
  refine zr_bind (zr_of (zReader_openParenthesis_r N _ (by decide) _ (by decide) _ hσ) (congr (congr (congrArg (Reader_openParenthesis N) (zl_17)) (zl_0)) rfl)) (fun r148 s148σ hr148 hs148 => ?_)
  dsimp only
  exact zr_of (zReader_readOpening_b223_r N  _ hs148) (congrArg (Reader_readOpening_b223 N) rfl)
def zReader_readOpening_b154 (N : Nat) (σ : z_S) : Option (Int × z_S) := (zReader_openParenthesis N 19 (σ.1 7) σ).bind fun q164 => if zin ((q164.2.1 7) + 1) then zReader_readOpening_b223 N (zF q164.2 7 ((q164.2.1 7) + 1)) else none
theorem zReader_readOpening_b154_r (N : Nat) (σ : z_S) (hσ : zR σ) : zrel (zReader_readOpening_b154 N σ) (Reader_readOpening_b154 N (zo σ)) := by
  unfold zReader_readOpening_b154 Reader_readOpening_b154
  refine zr_bind (zr_of (zReader_openParenthesis_r N _ (by decide) _ (hσ.1 7) _ hσ) (congr (congr (congrArg (Reader_openParenthesis N) (zl_19)) (zo_fld rfl 7)) rfl)) (fun r164 s164σ hr164 hs164 => ?_)
  dsimp only
  refine zr_g (fun g1 => ?_)
  exact zr_of (zReader_readOpening_b223_r N  _ (zR_F (k := 7) hs164 g1)) (congrArg (Reader_readOpening_b223 N) (zo_F (k := 7) rfl (zI_add (zo_fld rfl 7) (zl_1))))
def zReader_readOpening_b212 (N : Nat) (σ : z_S) : Option (Int × z_S) := if zin ((σ.1 12) + 2) then some (0, (zF σ 13 ((σ.1 12) + 2))) else none
theorem zReader_readOpening_b212_r (N : Nat) (σ : z_S) (hσ : zR σ) : zrel (zReader_readOpening_b212 N σ) (Reader_readOpening_b212 N (zo σ)) := by
  unfold zReader_readOpening_b212 Reader_readOpening_b212
  refine zr_g (fun g1 => ?_)
  exact zr_some (zl_0) (by decide) (zo_F (k := 13) rfl (zI_add (zo_fld rfl 12) (zl_2))) (zR_F (k := 13) hσ g1)
def zReader_readOpening_b98 (N : Nat) (σ : z_S) : Option (Int × z_S) := if zin ((σ.1 12) + 2) then (zReader_unitAt N ((σ.1 12) + 2) σ).bind fun q105 => if q105.1 = 33 then zReader_readOpening_b183 N q105.2 else if q105.1 = 58 then zReader_readOpening_b144 N q105.2 else if q105.1 = 61 then zReader_readOpening_b154 N q105.2 else zReader_readOpening_b212 N q105.2 else none
theorem zReader_readOpening_b98_r (N : Nat) (σ : z_S) (hσ : zR σ) : zrel (zReader_readOpening_b98 N σ) (Reader_readOpening_b98 N (zo σ)) := by
  unfold zReader_readOpening_b98 Reader_readOpening_b98
  refine zr_g (fun g1 => ?_)
  refine zr_bind (zr_of (zReader_unitAt_r N _ g1 _ hσ) (congr (congrArg (Reader_unitAt N) (zI_add (zo_fld rfl 12) (zl_2))) rfl)) (fun r105 s105σ hr105 hs105 => ?_)
  dsimp only
  refine zr_ite (zI_eq rfl (zl_33) hr105 (by decide)) ?_ ?_
  · exact zr_of (zReader_readOpening_b183_r N  _ hs105) (congrArg (Reader_readOpening_b183 N) rfl)
  · refine zr_ite (zI_eq rfl (zl_58) hr105 (by decide)) ?_ ?_
    · exact zr_of (zReader_readOpening_b144_r N  _ hs105) (congrArg (Reader_readOpening_b144 N) rfl)
    · refine zr_ite (zI_eq rfl (zl_61) hr105 (by decide)) ?_ ?_
      · exact zr_of (zReader_readOpening_b154_r N  _ hs105) (congrArg (Reader_readOpening_b154 N) rfl)
      · exact zr_of (zReader_readOpening_b212_r N  _ hs105) (congrArg (Reader_readOpening_b212 N) rfl)
def zReader_readOpening_b59 (N : Nat) (σ : z_S) : Option (Int × z_S) := if zin ((σ.1 8) + 1) then if zin ((σ.1 12) + 1) then (zReader_openParenthesis N 15 ((σ.1 8) + 1) (zF σ 12 ((σ.1 12) + 1))).bind fun q81 => if zin ((q81.2.1 8) + 1) then some (0, (zF q81.2 8 ((q81.2.1 8) + 1))) else none else none else none
theorem zReader_readOpening_b59_r (N : Nat) (σ : z_S) (hσ : zR σ) : zrel (zReader_readOpening_b59 N σ) (Reader_readOpening_b59 N (zo σ)) := by
  unfold zReader_readOpening_b59 Reader_readOpening_b59
  refine zr_g (fun g1 => ?_)
  refine zr_g (fun g2 => ?_)
  refine zr_bind (zr_of (zReader_openParenthesis_r N _ (by decide) _ g1 _ (zR_F (k := 12) hσ g2)) (congr (congr (congrArg (Reader_openParenthesis N) (zl_15)) (zI_add (zo_fld rfl 8) (zl_1))) (zo_F (k := 12) rfl (zI_add (zo_fld rfl 12) (zl_1))))) (fun r81 s81σ hr81 hs81 => ?_)
  dsimp only
  refine zr_g (fun g3 => ?_)
  exact zr_some (zl_0) (by decide) (zo_F (k := 8) rfl (zI_add (zo_fld rfl 8) (zl_1))) (zR_F (k := 8) hs81 g3)
def zReader_readOpening_b55 (N : Nat) (x1 : Int) (σ : z_S) : Option (Int × z_S) := if x1 = 0 then zReader_readOpening_b98 N σ else zReader_readOpening_b59 N σ
theorem zReader_readOpening_b55_r (N : Nat) (x1 : Int) (hx1 : zin x1) (σ : z_S) (hσ : zR σ) : zrel (zReader_readOpening_b55 N x1 σ) (Reader_readOpening_b55 N (zI x1) (zo σ)) := by
  unfold zReader_readOpening_b55 Reader_readOpening_b55
  refine zr_ite (zI_eq rfl (zl_0) hx1 (by decide)) ?_ ?_
  · exact zr_of (zReader_readOpening_b98_r N  _ hσ) (congrArg (Reader_readOpening_b98 N) rfl)
  · exact zr_of (zReader_readOpening_b59_r N  _ hσ) (congrArg (Reader_readOpening_b59 N) rfl)
def zReader_readOpening_b34 (N : Nat) (x1 : Int) (σ : z_S) : Option (Int × z_S) := if (σ.1 8) < 20 then zReader_readOpening_b55 N x1 σ else zReader_readOpening_b46 N σ
theorem zReader_readOpening_b34_r (N : Nat) (x1 : Int) (hx1 : zin x1) (σ : z_S) (hσ : zR σ) : zrel (zReader_readOpening_b34 N x1 σ) (Reader_readOpening_b34 N (zI x1) (zo σ)) := by
  unfold zReader_readOpening_b34 Reader_readOpening_b34
  refine zr_ite (zI_lt (zo_fld rfl 8) (zl_20) (hσ.1 8) (by decide)) ?_ ?_
  · exact zr_of (zReader_readOpening_b55_r N _ hx1 _ hσ) (congr (congrArg (Reader_readOpening_b55 N) rfl) rfl)
  · exact zr_of (zReader_readOpening_b46_r N  _ hσ) (congrArg (Reader_readOpening_b46 N) rfl)
def zReader_readOpening_b30 (N : Nat) (x1 : Int) (σ : z_S) : Option (Int × z_S) := if x1 = 0 then zReader_readOpening_b55 N x1 σ else zReader_readOpening_b34 N x1 σ
theorem zReader_readOpening_b30_r (N : Nat) (x1 : Int) (hx1 : zin x1) (σ : z_S) (hσ : zR σ) : zrel (zReader_readOpening_b30 N x1 σ) (Reader_readOpening_b30 N (zI x1) (zo σ)) := by
  unfold zReader_readOpening_b30 Reader_readOpening_b30
  refine zr_ite (zI_eq rfl (zl_0) hx1 (by decide)) ?_ ?_
  · exact zr_of (zReader_readOpening_b55_r N _ hx1 _ hσ) (congr (congrArg (Reader_readOpening_b55 N) rfl) rfl)
  · exact zr_of (zReader_readOpening_b34_r N _ hx1 _ hσ) (congr (congrArg (Reader_readOpening_b34 N) rfl) rfl)
def zReader_readOpening_b20 (N : Nat) (s0 : Int) (σ : z_S) : Option (Int × z_S) := if (40 : Int) ≤ (σ.1 14) then zReader_readOpening_b46 N σ else zReader_readOpening_b30 N s0 σ
theorem zReader_readOpening_b20_r (N : Nat) (s0 : Int) (hs0 : zin s0) (σ : z_S) (hσ : zR σ) : zrel (zReader_readOpening_b20 N s0 σ) (Reader_readOpening_b20 N (zI s0) (zo σ)) := by
  unfold zReader_readOpening_b20 Reader_readOpening_b20
  refine zr_ite (zI_le (zl_40) (zo_fld rfl 14) (by decide) (hσ.1 14)) ?_ ?_
  · exact zr_of (zReader_readOpening_b46_r N  _ hσ) (congrArg (Reader_readOpening_b46 N) rfl)
  · exact zr_of (zReader_readOpening_b30_r N _ hs0 _ hσ) (congr (congrArg (Reader_readOpening_b30 N) rfl) rfl)
def zReader_readOpening_b19 (N : Nat) (σ : z_S) : Option (Int × z_S) := zReader_readOpening_b20 N 0 σ
theorem zReader_readOpening_b19_r (N : Nat) (σ : z_S) (hσ : zR σ) : zrel (zReader_readOpening_b19 N σ) (Reader_readOpening_b19 N (zo σ)) := by
  unfold zReader_readOpening_b19 Reader_readOpening_b19
  exact zr_of (zReader_readOpening_b20_r N _ (by decide) _ hσ) (congr (congrArg (Reader_readOpening_b20 N) (zl_0)) rfl)
def zReader_readOpening_b15 (N : Nat) (σ : z_S) : Option (Int × z_S) := zReader_readOpening_b20 N 1 σ
theorem zReader_readOpening_b15_r (N : Nat) (σ : z_S) (hσ : zR σ) : zrel (zReader_readOpening_b15 N σ) (Reader_readOpening_b15 N (zo σ)) := by
  unfold zReader_readOpening_b15 Reader_readOpening_b15
  exact zr_of (zReader_readOpening_b20_r N _ (by decide) _ hσ) (congr (congrArg (Reader_readOpening_b20 N) (zl_1)) rfl)
def zReader_readOpening_b0 (N : Nat) (σ : z_S) : Option (Int × z_S) := if zin ((σ.1 12) + 1) then (zReader_unitAt N ((σ.1 12) + 1) σ).bind fun q7 => if q7.1 = 63 then zReader_readOpening_b19 N q7.2 else zReader_readOpening_b15 N q7.2 else none
theorem zReader_readOpening_b0_r (N : Nat) (σ : z_S) (hσ : zR σ) : zrel (zReader_readOpening_b0 N σ) (Reader_readOpening_b0 N (zo σ)) := by
  unfold zReader_readOpening_b0 Reader_readOpening_b0
  refine zr_g (fun g1 => ?_)
  refine zr_bind (zr_of (zReader_unitAt_r N _ g1 _ hσ) (congr (congrArg (Reader_unitAt N) (zI_add (zo_fld rfl 12) (zl_1))) rfl)) (fun r7 s7σ hr7 hs7 => ?_)
  dsimp only
  refine zr_ite (zI_eq rfl (zl_63) hr7 (by decide)) ?_ ?_
  · exact zr_of (zReader_readOpening_b19_r N  _ hs7) (congrArg (Reader_readOpening_b19 N) rfl)
  · exact zr_of (zReader_readOpening_b15_r N  _ hs7) (congrArg (Reader_readOpening_b15 N) rfl)
def zReader_readOpening (N : Nat) (σ : z_S) : Option (Int × z_S) := zReader_readOpening_b0 N σ
theorem zReader_readOpening_r (N : Nat) (σ : z_S) (hσ : zR σ) : zrel (zReader_readOpening N σ) (Reader_readOpening N (zo σ)) := by
  unfold zReader_readOpening Reader_readOpening
  exact zr_of (zReader_readOpening_b0_r N  _ hσ) (congrArg (Reader_readOpening_b0 N) rfl)
def zReader_append_b0 (N : Nat) (x1 : Int) (x2 : Int) (σ : z_S) : Option (Int × z_S) := (zProgram_link N (σ.1 16) x1 σ).bind fun q9 => some (0, (zF q9.2 16 x2))
theorem zReader_append_b0_r (N : Nat) (x1 : Int) (hx1 : zin x1) (x2 : Int) (hx2 : zin x2) (σ : z_S) (hσ : zR σ) : zrel (zReader_append_b0 N x1 x2 σ) (Reader_append_b0 N (zI x1) (zI x2) (zo σ)) := by
  unfold zReader_append_b0 Reader_append_b0
  refine zr_bind (zr_of (zProgram_link_r N _ (hσ.1 16) _ hx1 _ hσ) (congr (congr (congrArg (Program_link N) (zo_fld rfl 16)) rfl) rfl)) (fun r9 s9σ hr9 hs9 => ?_)
  dsimp only
  exact zr_some (zl_0) (by decide) (zo_F (k := 16) rfl rfl) (zR_F (k := 16) hs9 hx2)
def zReader_append (N : Nat) (x1 : Int) (x2 : Int) (σ : z_S) : Option (Int × z_S) := zReader_append_b0 N x1 x2 σ
theorem zReader_append_r (N : Nat) (x1 : Int) (hx1 : zin x1) (x2 : Int) (hx2 : zin x2) (σ : z_S) (hσ : zR σ) : zrel (zReader_append N x1 x2 σ) (Reader_append N (zI x1) (zI x2) (zo σ)) := by
  unfold zReader_append Reader_append
  exact zr_of (zReader_append_b0_r N _ hx1 _ hx2 _ hσ) (congr (congr (congrArg (Reader_append_b0 N) rfl) rfl) rfl)
def zReader_holdAtom_b0 (N : Nat) (x1 : Int) (x2 : Int) (x3 : Int) (σ : z_S) : Option (Int × z_S) := some (0, (zF (zF (zF σ 19 x1) 20 x2) 21 x3))
theorem zReader_holdAtom_b0_r (N : Nat) (x1 : Int) (hx1 : zin x1) (x2 : Int) (hx2 : zin x2) (x3 : Int) (hx3 : zin x3) (σ : z_S) (hσ : zR σ) : zrel (zReader_holdAtom_b0 N x1 x2 x3 σ) (Reader_holdAtom_b0 N (zI x1) (zI x2) (zI x3) (zo σ)) := by
  unfold zReader_holdAtom_b0 Reader_holdAtom_b0
  exact zr_some (zl_0) (by decide) (zo_F (k := 21) (zo_F (k := 20) (zo_F (k := 19) rfl rfl) rfl) rfl) (zR_F (k := 21) (zR_F (k := 20) (zR_F (k := 19) hσ hx1) hx2) hx3)
def zReader_holdAtom (N : Nat) (x1 : Int) (x2 : Int) (x3 : Int) (σ : z_S) : Option (Int × z_S) := zReader_holdAtom_b0 N x1 x2 x3 σ
theorem zReader_holdAtom_r (N : Nat) (x1 : Int) (hx1 : zin x1) (x2 : Int) (hx2 : zin x2) (x3 : Int) (hx3 : zin x3) (σ : z_S) (hσ : zR σ) : zrel (zReader_holdAtom N x1 x2 x3 σ) (Reader_holdAtom N (zI x1) (zI x2) (zI x3) (zo σ)) := by
  unfold zReader_holdAtom Reader_holdAtom
  exact zr_of (zReader_holdAtom_b0_r N _ hx1 _ hx2 _ hx3 _ hσ) (congr (congr (congr (congrArg (Reader_holdAtom_b0 N) rfl) rfl) rfl) rfl)
def zReader_readClosing_b146 (N : Nat) (σ : z_S) : Option (Int × z_S) := some (0, σ)
theorem zReader_readClosing_b146_r (N : Nat) (σ : z_S) (hσ : zR σ) : zrel (zReader_readClosing_b146 N σ) (Reader_readClosing_b146 N (zo σ)) := by
  unfold zReader_readClosing_b146 Reader_readClosing_b146
  exact zr_some (zl_0) (by decide) rfl hσ
def zReader_readClosing_b116 (N : Nat) (x1 : Int) (σ : z_S) : Option (Int × z_S) := if zin (x1 + 1) then (zReader_append N x1 (x1 + 1) σ).bind fun q121 => zReader_readClosing_b146 N q121.2 else none
theorem zReader_readClosing_b116_r (N : Nat) (x1 : Int) (hx1 : zin x1) (σ : z_S) (hσ : zR σ) : zrel (zReader_readClosing_b116 N x1 σ) (Reader_readClosing_b116 N (zI x1) (zo σ)) := by
  unfold zReader_readClosing_b116 Reader_readClosing_b116
  refine zr_g (fun g1 => ?_)
  refine zr_bind (zr_of (zReader_append_r N _ hx1 _ g1 _ hσ) (congr (congr (congrArg (Reader_append N) rfl) (zI_add rfl (zl_1))) rfl)) (fun r121 s121σ hr121 hs121 => ?_)
  dsimp only
  exact zr_of (zReader_readClosing_b146_r N  _ hs121) (congrArg (Reader_readClosing_b146 N) rfl)
def zReader_readClosing_b127 (N : Nat) (x1 : Int) (σ : z_S) : Option (Int × z_S) := (zRows_read N 16 (σ.1 14) σ).bind fun q140 => if zin (x1 + 1) then (zReader_holdAtom N x1 (x1 + 1) q140.1 q140.2).bind fun q143 => zReader_readClosing_b146 N q143.2 else none
theorem zReader_readClosing_b127_r (N : Nat) (x1 : Int) (hx1 : zin x1) (σ : z_S) (hσ : zR σ) : zrel (zReader_readClosing_b127 N x1 σ) (Reader_readClosing_b127 N (zI x1) (zo σ)) := by
  unfold zReader_readClosing_b127 Reader_readClosing_b127
  refine zr_bind (zr_of (zRows_read_r N 16 _ (hσ.1 14) _ hσ) (congr (congrArg (Rows_read N 16) (zo_fld rfl 14)) rfl)) (fun r140 s140σ hr140 hs140 => ?_)
  dsimp only
  refine zr_g (fun g1 => ?_)
  refine zr_bind (zr_of (zReader_holdAtom_r N _ hx1 _ g1 _ hr140 _ hs140) (congr (congr (congr (congrArg (Reader_holdAtom N) rfl) (zI_add rfl (zl_1))) rfl) rfl)) (fun r143 s143σ hr143 hs143 => ?_)
  dsimp only
  exact zr_of (zReader_readClosing_b146_r N  _ hs143) (congrArg (Reader_readClosing_b146 N) rfl)
def zReader_readClosing_b110 (N : Nat) (x1 : Int) (x2 : Int) (σ : z_S) : Option (Int × z_S) := if x2 = 21 then zReader_readClosing_b116 N x1 σ else zReader_readClosing_b127 N x1 σ
theorem zReader_readClosing_b110_r (N : Nat) (x1 : Int) (hx1 : zin x1) (x2 : Int) (hx2 : zin x2) (σ : z_S) (hσ : zR σ) : zrel (zReader_readClosing_b110 N x1 x2 σ) (Reader_readClosing_b110 N (zI x1) (zI x2) (zo σ)) := by
  unfold zReader_readClosing_b110 Reader_readClosing_b110
  refine zr_ite (zI_eq rfl (zl_21) hx2 (by decide)) ?_ ?_
  · exact zr_of (zReader_readClosing_b116_r N _ hx1 _ hσ) (congr (congrArg (Reader_readClosing_b116 N) rfl) rfl)
  · exact zr_of (zReader_readClosing_b127_r N _ hx1 _ hσ) (congr (congrArg (Reader_readClosing_b127 N) rfl) rfl)
def zReader_readClosing_b16 (N : Nat) (σ : z_S) : Option (Int × z_S) := if zin ((σ.1 14) - 1) then (zRows_read N 13 ((σ.1 14) - 1) (zF σ 14 ((σ.1 14) - 1))).bind fun q34 => if zin (q34.1 + 1) then (zProgram_link N (q34.2.1 16) (q34.1 + 1) q34.2).bind fun q49 => (zRows_read N 14 (q49.2.1 14) q49.2).bind fun q61 => (zRows_read N 15 (q61.2.1 14) (zF q61.2 16 q61.1)).bind fun q76 => if zin ((q76.2.1 12) + 1) then (zRows_read N 1 q34.1 (zF (zF q76.2 15 q76.1) 12 ((q76.2.1 12) + 1))).bind fun q100 => if q100.1 = 19 then zReader_readClosing_b116 N q34.1 q100.2 else zReader_readClosing_b110 N q34.1 q100.1 q100.2 else none else none else none
theorem zReader_readClosing_b16_r (N : Nat) (σ : z_S) (hσ : zR σ) : zrel (zReader_readClosing_b16 N σ) (Reader_readClosing_b16 N (zo σ)) := by
  unfold zReader_readClosing_b16 Reader_readClosing_b16
  refine zr_g (fun g1 => ?_)
  refine zr_bind (zr_of (zRows_read_r N 13 _ g1 _ (zR_F (k := 14) hσ g1)) (congr (congrArg (Rows_read N 13) (zI_sub (zo_fld rfl 14) (zl_1))) (zo_F (k := 14) rfl (zI_sub (zo_fld rfl 14) (zl_1))))) (fun r34 s34σ hr34 hs34 => ?_)
  dsimp only
  refine zr_g (fun g2 => ?_)
  refine zr_bind (zr_of (zProgram_link_r N _ (hs34.1 16) _ g2 _ hs34) (congr (congr (congrArg (Program_link N) (zo_fld rfl 16)) (zI_add rfl (zl_1))) rfl)) (fun r49 s49σ hr49 hs49 => ?_)
  dsimp only
  refine zr_bind (zr_of (zRows_read_r N 14 _ (hs49.1 14) _ hs49) (congr (congrArg (Rows_read N 14) (zo_fld rfl 14)) rfl)) (fun r61 s61σ hr61 hs61 => ?_)
  dsimp only
  refine zr_bind (zr_of (zRows_read_r N 15 _ (hs61.1 14) _ (zR_F (k := 16) hs61 hr61)) (congr (congrArg (Rows_read N 15) (zo_fld rfl 14)) (zo_F (k := 16) rfl rfl))) (fun r76 s76σ hr76 hs76 => ?_)
  dsimp only
  refine zr_g (fun g3 => ?_)
  refine zr_bind (zr_of (zRows_read_r N 1 _ hr34 _ (zR_F (k := 12) (zR_F (k := 15) hs76 hr76) g3)) (congr (congrArg (Rows_read N 1) rfl) (zo_F (k := 12) (zo_F (k := 15) rfl rfl) (zI_add (zo_fld rfl 12) (zl_1))))) (fun r100 s100σ hr100 hs100 => ?_)
  dsimp only
  refine zr_ite (zI_eq rfl (zl_19) hr100 (by decide)) ?_ ?_
  · exact zr_of (zReader_readClosing_b116_r N _ hr34 _ hs100) (congr (congrArg (Reader_readClosing_b116 N) rfl) rfl)
  · exact zr_of (zReader_readClosing_b110_r N _ hr34 _ hr100 _ hs100) (congr (congr (congrArg (Reader_readClosing_b110 N) rfl) rfl) rfl)
def zReader_readClosing_b7 (N : Nat) (σ : z_S) : Option (Int × z_S) := some (0, (zF σ 13 (σ.1 12)))
theorem zReader_readClosing_b7_r (N : Nat) (σ : z_S) (hσ : zR σ) : zrel (zReader_readClosing_b7 N σ) (Reader_readClosing_b7 N (zo σ)) := by
  unfold zReader_readClosing_b7 Reader_readClosing_b7
  exact zr_some (zl_0) (by decide) (zo_F (k := 13) rfl (zo_fld rfl 12)) (zR_F (k := 13) hσ (hσ.1 12))
def zReader_readClosing_b0 (N : Nat) (σ : z_S) : Option (Int × z_S) := if (σ.1 14) = 0 then zReader_readClosing_b7 N σ else zReader_readClosing_b16 N σ
theorem zReader_readClosing_b0_r (N : Nat) (σ : z_S) (hσ : zR σ) : zrel (zReader_readClosing_b0 N σ) (Reader_readClosing_b0 N (zo σ)) := by
  unfold zReader_readClosing_b0 Reader_readClosing_b0
  refine zr_ite (zI_eq (zo_fld rfl 14) (zl_0) (hσ.1 14) (by decide)) ?_ ?_
  · exact zr_of (zReader_readClosing_b7_r N  _ hσ) (congrArg (Reader_readClosing_b7 N) rfl)
  · exact zr_of (zReader_readClosing_b16_r N  _ hσ) (congrArg (Reader_readClosing_b16 N) rfl)
def zReader_readClosing (N : Nat) (σ : z_S) : Option (Int × z_S) := zReader_readClosing_b0 N σ
theorem zReader_readClosing_r (N : Nat) (σ : z_S) (hσ : zR σ) : zrel (zReader_readClosing N σ) (Reader_readClosing N (zo σ)) := by
  unfold zReader_readClosing Reader_readClosing
  exact zr_of (zReader_readClosing_b0_r N  _ hσ) (congrArg (Reader_readClosing_b0 N) rfl)
def zReader_readZero_b22 (N : Nat) (σ : z_S) : Option (Int × z_S) := some (0, σ)
theorem zReader_readZero_b22_r (N : Nat) (σ : z_S) (hσ : zR σ) : zrel (zReader_readZero_b22 N σ) (Reader_readZero_b22 N (zo σ)) := by
  unfold zReader_readZero_b22 Reader_readZero_b22
  exact zr_some (zl_0) (by decide) rfl hσ
def zReader_readZero_b14 (N : Nat) (σ : z_S) : Option (Int × z_S) := zReader_readZero_b22 N (zF σ 13 (σ.1 12))
theorem zReader_readZero_b14_r (N : Nat) (σ : z_S) (hσ : zR σ) : zrel (zReader_readZero_b14 N σ) (Reader_readZero_b14 N (zo σ)) := by
  unfold zReader_readZero_b14 Reader_readZero_b14
  exact zr_of (zReader_readZero_b22_r N  _ (zR_F (k := 13) hσ (hσ.1 12))) (congrArg (Reader_readZero_b22 N) (zo_F (k := 13) rfl (zo_fld rfl 12)))
def zReader_readZero_b0 (N : Nat) (σ : z_S) : Option (Int × z_S) := (zReader_unitAt N (σ.1 12) σ).bind fun q5 => (zUnits_isDigit N q5.1 q5.2).bind fun q8 => if q8.1 = 0 then zReader_readZero_b22 N q8.2 else zReader_readZero_b14 N q8.2
theorem zReader_readZero_b0_r (N : Nat) (σ : z_S) (hσ : zR σ) : zrel (zReader_readZero_b0 N σ) (Reader_readZero_b0 N (zo σ)) := by
  unfold zReader_readZero_b0 Reader_readZero_b0
  refine zr_bind (zr_of (zReader_unitAt_r N _ (hσ.1 12) _ hσ) (congr (congrArg (Reader_unitAt N) (zo_fld rfl 12)) rfl)) (fun r5 s5σ hr5 hs5 => ?_)
  dsimp only
  refine zr_bind (zr_of (zUnits_isDigit_r N _ hr5 _ hs5) (congr (congrArg (Units_isDigit N) rfl) rfl)) (fun r8 s8σ hr8 hs8 => ?_)
  dsimp only
  refine zr_ite (zI_eq rfl (zl_0) hr8 (by decide)) ?_ ?_
  · exact zr_of (zReader_readZero_b22_r N  _ hs8) (congrArg (Reader_readZero_b22 N) rfl)
  · exact zr_of (zReader_readZero_b14_r N  _ hs8) (congrArg (Reader_readZero_b14 N) rfl)
def zReader_readZero (N : Nat) (σ : z_S) : Option (Int × z_S) := zReader_readZero_b0 N σ
theorem zReader_readZero_r (N : Nat) (σ : z_S) (hσ : zR σ) : zrel (zReader_readZero N σ) (Reader_readZero N (zo σ)) := by
  unfold zReader_readZero Reader_readZero
  exact zr_of (zReader_readZero_b0_r N  _ hσ) (congrArg (Reader_readZero_b0 N) rfl)
def zReader_readControl_b26 (N : Nat) (x1 : Int) (σ : z_S) : Option (Int × z_S) := if zin ((σ.1 12) + 1) then some ((zand x1 31), (zF σ 12 ((σ.1 12) + 1))) else none
theorem zReader_readControl_b26_r (N : Nat) (x1 : Int) (hx1 : zin x1) (σ : z_S) (hσ : zR σ) : zrel (zReader_readControl_b26 N x1 σ) (Reader_readControl_b26 N (zI x1) (zo σ)) := by
  unfold zReader_readControl_b26 Reader_readControl_b26
  refine zr_g (fun g1 => ?_)
  exact zr_some (zI_and rfl (zl_31)) (zin_toInt _) (zo_F (k := 12) rfl (zI_add (zo_fld rfl 12) (zl_1))) (zR_F (k := 12) hσ g1)
def zReader_readControl_b16 (N : Nat) (σ : z_S) : Option (Int × z_S) := some (0, (zF σ 13 (σ.1 12)))
theorem zReader_readControl_b16_r (N : Nat) (σ : z_S) (hσ : zR σ) : zrel (zReader_readControl_b16 N σ) (Reader_readControl_b16 N (zo σ)) := by
  unfold zReader_readControl_b16 Reader_readControl_b16
  exact zr_some (zl_0) (by decide) (zo_F (k := 13) rfl (zo_fld rfl 12)) (zR_F (k := 13) hσ (hσ.1 12))
def zReader_readControl_b0 (N : Nat) (σ : z_S) : Option (Int × z_S) := (zReader_unitAt N (σ.1 12) σ).bind fun q5 => (zUnits_isLetter N q5.1 q5.2).bind fun q10 => if q10.1 = 0 then zReader_readControl_b16 N q10.2 else zReader_readControl_b26 N q5.1 q10.2
theorem zReader_readControl_b0_r (N : Nat) (σ : z_S) (hσ : zR σ) : zrel (zReader_readControl_b0 N σ) (Reader_readControl_b0 N (zo σ)) := by
  unfold zReader_readControl_b0 Reader_readControl_b0
  refine zr_bind (zr_of (zReader_unitAt_r N _ (hσ.1 12) _ hσ) (congr (congrArg (Reader_unitAt N) (zo_fld rfl 12)) rfl)) (fun r5 s5σ hr5 hs5 => ?_)
  dsimp only
  refine zr_bind (zr_of (zUnits_isLetter_r N _ hr5 _ hs5) (congr (congrArg (Units_isLetter N) rfl) rfl)) (fun r10 s10σ hr10 hs10 => ?_)
  dsimp only
  refine zr_ite (zI_eq rfl (zl_0) hr10 (by decide)) ?_ ?_
  · exact zr_of (zReader_readControl_b16_r N  _ hs10) (congrArg (Reader_readControl_b16 N) rfl)
  · exact zr_of (zReader_readControl_b26_r N _ hr5 _ hs10) (congr (congrArg (Reader_readControl_b26 N) rfl) rfl)
def zReader_readControl (N : Nat) (σ : z_S) : Option (Int × z_S) := zReader_readControl_b0 N σ
theorem zReader_readControl_r (N : Nat) (σ : z_S) (hσ : zR σ) : zrel (zReader_readControl N σ) (Reader_readControl N (zo σ)) := by
  unfold zReader_readControl Reader_readControl
  exact zr_of (zReader_readControl_b0_r N  _ hσ) (congrArg (Reader_readControl_b0 N) rfl)
def zReader_readSixteenths_b61 (N : Nat) (x2 : Int) (σ : z_S) : Option (Int × z_S) := some (x2, σ)
theorem zReader_readSixteenths_b61_r (N : Nat) (x2 : Int) (hx2 : zin x2) (σ : z_S) (hσ : zR σ) : zrel (zReader_readSixteenths_b61 N x2 σ) (Reader_readSixteenths_b61 N (zI x2) (zo σ)) := by
  unfold zReader_readSixteenths_b61 Reader_readSixteenths_b61
  exact zr_some rfl hx2 rfl hσ
def zReader_readSixteenths_b37 (N : Nat) (k4 : Int → Int → Int → z_S → Option (Int × z_S)) (x1 : Int) (x2 : Int) (x3 : Int) (x4 : Int) (σ : z_S) : Option (Int × z_S) := if zin (x2 * 16) then if zin ((x2 * 16) + x4) then if zin (x3 + 1) then if zin ((σ.1 12) + 1) then k4 x1 ((x2 * 16) + x4) (x3 + 1) (zF σ 12 ((σ.1 12) + 1)) else none else none else none else none
theorem zReader_readSixteenths_b37_r (N : Nat) (k4 : Int → Int → Int → z_S → Option (Int × z_S)) (k4' : Int32 → Int32 → Int32 → g_S → Option (Int32 × g_S)) (hk4 : ∀ (y0 : Int) (_ : zin y0) (y1 : Int) (_ : zin y1) (y2 : Int) (_ : zin y2) (σ : z_S), zR σ → zrel (k4 y0 y1 y2 σ) (k4' (zI y0) (zI y1) (zI y2) (zo σ))) (x1 : Int) (hx1 : zin x1) (x2 : Int) (hx2 : zin x2) (x3 : Int) (hx3 : zin x3) (x4 : Int) (hx4 : zin x4) (σ : z_S) (hσ : zR σ) : zrel (zReader_readSixteenths_b37 N k4 x1 x2 x3 x4 σ) (Reader_readSixteenths_b37 N k4' (zI x1) (zI x2) (zI x3) (zI x4) (zo σ)) := by
  unfold zReader_readSixteenths_b37 Reader_readSixteenths_b37
  refine zr_g (fun g1 => ?_)
  refine zr_g (fun g2 => ?_)
  refine zr_g (fun g3 => ?_)
  refine zr_g (fun g4 => ?_)
  exact zr_of (hk4 _ hx1 _ g2 _ g3 _ (zR_F (k := 12) hσ g4)) (congr (congr (congr (congrArg (k4') rfl) (zI_add (zI_mul rfl (zl_16)) rfl)) (zI_add rfl (zl_1))) (zo_F (k := 12) rfl (zI_add (zo_fld rfl 12) (zl_1))))
def zReader_readSixteenths_b27 (N : Nat) (σ : z_S) : Option (Int × z_S) := some (0, (zF σ 13 (σ.1 12)))
theorem zReader_readSixteenths_b27_r (N : Nat) (σ : z_S) (hσ : zR σ) : zrel (zReader_readSixteenths_b27 N σ) (Reader_readSixteenths_b27 N (zo σ)) := by
  unfold zReader_readSixteenths_b27 Reader_readSixteenths_b27
  exact zr_some (zl_0) (by decide) (zo_F (k := 13) rfl (zo_fld rfl 12)) (zR_F (k := 13) hσ (hσ.1 12))
def zReader_readSixteenths_b9 (N : Nat) (k4 : Int → Int → Int → z_S → Option (Int × z_S)) (x1 : Int) (x2 : Int) (x3 : Int) (σ : z_S) : Option (Int × z_S) := (zReader_unitAt N (σ.1 12) σ).bind fun q14 => (zUnits_sixteenth N q14.1 q14.2).bind fun q17 => if (0 : Int) ≤ q17.1 then zReader_readSixteenths_b37 N k4 x1 x2 x3 q17.1 q17.2 else zReader_readSixteenths_b27 N q17.2
theorem zReader_readSixteenths_b9_r (N : Nat) (k4 : Int → Int → Int → z_S → Option (Int × z_S)) (k4' : Int32 → Int32 → Int32 → g_S → Option (Int32 × g_S)) (hk4 : ∀ (y0 : Int) (_ : zin y0) (y1 : Int) (_ : zin y1) (y2 : Int) (_ : zin y2) (σ : z_S), zR σ → zrel (k4 y0 y1 y2 σ) (k4' (zI y0) (zI y1) (zI y2) (zo σ))) (x1 : Int) (hx1 : zin x1) (x2 : Int) (hx2 : zin x2) (x3 : Int) (hx3 : zin x3) (σ : z_S) (hσ : zR σ) : zrel (zReader_readSixteenths_b9 N k4 x1 x2 x3 σ) (Reader_readSixteenths_b9 N k4' (zI x1) (zI x2) (zI x3) (zo σ)) := by
  unfold zReader_readSixteenths_b9 Reader_readSixteenths_b9
  refine zr_bind (zr_of (zReader_unitAt_r N _ (hσ.1 12) _ hσ) (congr (congrArg (Reader_unitAt N) (zo_fld rfl 12)) rfl)) (fun r14 s14σ hr14 hs14 => ?_)
  dsimp only
  refine zr_bind (zr_of (zUnits_sixteenth_r N _ hr14 _ hs14) (congr (congrArg (Units_sixteenth N) rfl) rfl)) (fun r17 s17σ hr17 hs17 => ?_)
  dsimp only
  refine zr_ite (zI_le (zl_0) rfl (by decide) hr17) ?_ ?_
  · exact zr_of (zReader_readSixteenths_b37_r N k4 k4' hk4 _ hx1 _ hx2 _ hx3 _ hr17 _ hs17) (congr (congr (congr (congr (congrArg (Reader_readSixteenths_b37 N k4') rfl) rfl) rfl) rfl) rfl)
  · exact zr_of (zReader_readSixteenths_b27_r N  _ hs17) (congrArg (Reader_readSixteenths_b27 N) rfl)
def zReader_readSixteenths_b4 (N : Nat) (k4 : Int → Int → Int → z_S → Option (Int × z_S)) (x1 : Int) (x2 : Int) (x3 : Int) (σ : z_S) : Option (Int × z_S) := if x1 ≤ x3 then zReader_readSixteenths_b61 N x2 σ else zReader_readSixteenths_b9 N k4 x1 x2 x3 σ
theorem zReader_readSixteenths_b4_r (N : Nat) (k4 : Int → Int → Int → z_S → Option (Int × z_S)) (k4' : Int32 → Int32 → Int32 → g_S → Option (Int32 × g_S)) (hk4 : ∀ (y0 : Int) (_ : zin y0) (y1 : Int) (_ : zin y1) (y2 : Int) (_ : zin y2) (σ : z_S), zR σ → zrel (k4 y0 y1 y2 σ) (k4' (zI y0) (zI y1) (zI y2) (zo σ))) (x1 : Int) (hx1 : zin x1) (x2 : Int) (hx2 : zin x2) (x3 : Int) (hx3 : zin x3) (σ : z_S) (hσ : zR σ) : zrel (zReader_readSixteenths_b4 N k4 x1 x2 x3 σ) (Reader_readSixteenths_b4 N k4' (zI x1) (zI x2) (zI x3) (zo σ)) := by
  unfold zReader_readSixteenths_b4 Reader_readSixteenths_b4
  refine zr_ite (zI_le rfl rfl hx1 hx3) ?_ ?_
  · exact zr_of (zReader_readSixteenths_b61_r N _ hx2 _ hσ) (congr (congrArg (Reader_readSixteenths_b61 N) rfl) rfl)
  · exact zr_of (zReader_readSixteenths_b9_r N k4 k4' hk4 _ hx1 _ hx2 _ hx3 _ hσ) (congr (congr (congr (congrArg (Reader_readSixteenths_b9 N k4') rfl) rfl) rfl) rfl)
def zReader_readSixteenths_l4 (N : Nat) : Nat → Int → Int → Int → z_S → Option (Int × z_S)
  | 0 => fun _ _ _ _ => none
  | n + 1 => fun x1 x2 x3 σ => zReader_readSixteenths_b4 N (zReader_readSixteenths_l4 N n) x1 x2 x3 σ
theorem zReader_readSixteenths_l4_r (N : Nat) (n : Nat) : ∀ (x1 : Int) (hx1 : zin x1) (x2 : Int) (hx2 : zin x2) (x3 : Int) (hx3 : zin x3) (σ : z_S) (_ : zR σ), zrel (zReader_readSixteenths_l4 N n x1 x2 x3 σ) (Reader_readSixteenths_l4 N n (zI x1) (zI x2) (zI x3) (zo σ)) := by
  induction n with
  | zero => intro x1 hx1 x2 hx2 x3 hx3 σ hσ r s h; cases h
  | succ n ih => intro x1 hx1 x2 hx2 x3 hx3 σ hσ; exact zReader_readSixteenths_b4_r N _ _ (fun x1 hx1 x2 hx2 x3 hx3 σ hσ => ih x1 hx1 x2 hx2 x3 hx3 σ hσ) x1 hx1 x2 hx2 x3 hx3 σ hσ
def zReader_readSixteenths_b0 (N : Nat) (x1 : Int) (σ : z_S) : Option (Int × z_S) := zReader_readSixteenths_l4 N N x1 0 0 σ
theorem zReader_readSixteenths_b0_r (N : Nat) (x1 : Int) (hx1 : zin x1) (σ : z_S) (hσ : zR σ) : zrel (zReader_readSixteenths_b0 N x1 σ) (Reader_readSixteenths_b0 N (zI x1) (zo σ)) := by
  unfold zReader_readSixteenths_b0 Reader_readSixteenths_b0
  exact zr_of (zReader_readSixteenths_l4_r N N _ hx1 _ (by decide) _ (by decide) _ hσ) (congr (congr (congr (congrArg (Reader_readSixteenths_l4 N N) rfl) (zl_0)) (zl_0)) rfl)
def zReader_readSixteenths (N : Nat) (x1 : Int) (σ : z_S) : Option (Int × z_S) := zReader_readSixteenths_b0 N x1 σ
theorem zReader_readSixteenths_r (N : Nat) (x1 : Int) (hx1 : zin x1) (σ : z_S) (hσ : zR σ) : zrel (zReader_readSixteenths N x1 σ) (Reader_readSixteenths N (zI x1) (zo σ)) := by
  unfold zReader_readSixteenths Reader_readSixteenths
  exact zr_of (zReader_readSixteenths_b0_r N _ hx1 _ hσ) (congr (congrArg (Reader_readSixteenths_b0 N) rfl) rfl)
