def zReader_readPattern_b140 (N : Nat) (σ : z_S) : Option (Int × z_S) := (zProgram_link N (σ.1 16) 0 σ).bind fun q149 => some ((q149.2.1 13), q149.2)
theorem zReader_readPattern_b140_r (N : Nat) (σ : z_S) (hσ : zR σ) : zrel (zReader_readPattern_b140 N σ) (Reader_readPattern_b140 N (zo σ)) := by
  unfold zReader_readPattern_b140 Reader_readPattern_b140
  refine zr_bind (zr_of (zProgram_link_r N _ (hσ.1 16) _ (by decide) _ hσ) (congr (congr (congrArg (Program_link N) (zo_fld rfl 16)) (zl_0)) rfl)) (fun r149 s149σ hr149 hs149 => ?_)
  dsimp only
  exact zr_some (zo_fld rfl 13) (hs149.1 13) rfl hs149
def zReader_readPattern_b132 (N : Nat) (σ : z_S) : Option (Int × z_S) := (zReader_tooGreatReference N σ).bind fun q134 => zReader_readPattern_b140 N (zF q134.2 13 q134.1)
theorem zReader_readPattern_b132_r (N : Nat) (σ : z_S) (hσ : zR σ) : zrel (zReader_readPattern_b132 N σ) (Reader_readPattern_b132 N (zo σ)) := by
  unfold zReader_readPattern_b132 Reader_readPattern_b132
  refine zr_bind (zr_of (zReader_tooGreatReference_r N  _ hσ) (congrArg (Reader_tooGreatReference N) rfl)) (fun r134 s134σ hr134 hs134 => ?_)
  dsimp only
  exact zr_of (zReader_readPattern_b140_r N  _ (zR_F (k := 13) hs134 hr134)) (congrArg (Reader_readPattern_b140 N) (zo_F (k := 13) rfl rfl))
def zReader_readPattern_b125 (N : Nat) (σ : z_S) : Option (Int × z_S) := if (0 : Int) ≤ (σ.1 13) then zReader_readPattern_b140 N σ else zReader_readPattern_b132 N σ
theorem zReader_readPattern_b125_r (N : Nat) (σ : z_S) (hσ : zR σ) : zrel (zReader_readPattern_b125 N σ) (Reader_readPattern_b125 N (zo σ)) := by
  unfold zReader_readPattern_b125 Reader_readPattern_b125
  refine zr_ite (zI_le (zl_0) (zo_fld rfl 13) (by decide) (hσ.1 13)) ?_ ?_
  · exact zr_of (zReader_readPattern_b140_r N  _ hσ) (congrArg (Reader_readPattern_b140 N) rfl)
  · exact zr_of (zReader_readPattern_b132_r N  _ hσ) (congrArg (Reader_readPattern_b132 N) rfl)
def zReader_readPattern_b117 (N : Nat) (σ : z_S) : Option (Int × z_S) := zReader_readPattern_b125 N (zF σ 13 (σ.1 11))
theorem zReader_readPattern_b117_r (N : Nat) (σ : z_S) (hσ : zR σ) : zrel (zReader_readPattern_b117 N σ) (Reader_readPattern_b117 N (zo σ)) := by
  unfold zReader_readPattern_b117 Reader_readPattern_b117
  exact zr_of (zReader_readPattern_b125_r N  _ (zR_F (k := 13) hσ (hσ.1 11))) (congrArg (Reader_readPattern_b125 N) (zo_F (k := 13) rfl (zo_fld rfl 11)))
def zReader_readPattern_b110 (N : Nat) (σ : z_S) : Option (Int × z_S) := if (σ.1 14) ≤ 0 then zReader_readPattern_b125 N σ else zReader_readPattern_b117 N σ
theorem zReader_readPattern_b110_r (N : Nat) (σ : z_S) (hσ : zR σ) : zrel (zReader_readPattern_b110 N σ) (Reader_readPattern_b110 N (zo σ)) := by
  unfold zReader_readPattern_b110 Reader_readPattern_b110
  refine zr_ite (zI_le (zo_fld rfl 14) (zl_0) (hσ.1 14) (by decide)) ?_ ?_
  · exact zr_of (zReader_readPattern_b125_r N  _ hσ) (congrArg (Reader_readPattern_b125 N) rfl)
  · exact zr_of (zReader_readPattern_b117_r N  _ hσ) (congrArg (Reader_readPattern_b117 N) rfl)
def zReader_readPattern_b103 (N : Nat) (σ : z_S) : Option (Int × z_S) := if (0 : Int) ≤ (σ.1 13) then zReader_readPattern_b125 N σ else zReader_readPattern_b110 N σ
theorem zReader_readPattern_b103_r (N : Nat) (σ : z_S) (hσ : zR σ) : zrel (zReader_readPattern_b103 N σ) (Reader_readPattern_b103 N (zo σ)) := by
  unfold zReader_readPattern_b103 Reader_readPattern_b103
  refine zr_ite (zI_le (zl_0) (zo_fld rfl 13) (by decide) (hσ.1 13)) ?_ ?_
  · exact zr_of (zReader_readPattern_b125_r N  _ hσ) (congrArg (Reader_readPattern_b125 N) rfl)
  · exact zr_of (zReader_readPattern_b110_r N  _ hσ) (congrArg (Reader_readPattern_b110 N) rfl)
def zReader_readPattern_b97 (N : Nat) (k49 : Int → z_S → Option (Int × z_S)) (x2 : Int) (σ : z_S) : Option (Int × z_S) := if zin (x2 + 1) then k49 (x2 + 1) σ else none
theorem zReader_readPattern_b97_r (N : Nat) (k49 : Int → z_S → Option (Int × z_S)) (k49' : Int32 → g_S → Option (Int32 × g_S)) (hk49 : ∀ (y0 : Int) (_ : zin y0) (σ : z_S), zR σ → zrel (k49 y0 σ) (k49' (zI y0) (zo σ))) (x2 : Int) (hx2 : zin x2) (σ : z_S) (hσ : zR σ) : zrel (zReader_readPattern_b97 N k49 x2 σ) (Reader_readPattern_b97 N k49' (zI x2) (zo σ)) := by
  unfold zReader_readPattern_b97 Reader_readPattern_b97
  refine zr_g (fun g1 => ?_)
  exact zr_of (hk49 _ g1 _ hσ) (congr (congrArg (k49') (zI_add rfl (zl_1))) rfl)
def zReader_readPattern_b93 (N : Nat) (k49 : Int → z_S → Option (Int × z_S)) (x2 : Int) (σ : z_S) : Option (Int × z_S) := (zReader_appendAtom N σ).bind fun q94 => zReader_readPattern_b97 N k49 x2 q94.2
theorem zReader_readPattern_b93_r (N : Nat) (k49 : Int → z_S → Option (Int × z_S)) (k49' : Int32 → g_S → Option (Int32 × g_S)) (hk49 : ∀ (y0 : Int) (_ : zin y0) (σ : z_S), zR σ → zrel (k49 y0 σ) (k49' (zI y0) (zo σ))) (x2 : Int) (hx2 : zin x2) (σ : z_S) (hσ : zR σ) : zrel (zReader_readPattern_b93 N k49 x2 σ) (Reader_readPattern_b93 N k49' (zI x2) (zo σ)) := by
  unfold zReader_readPattern_b93 Reader_readPattern_b93
  refine zr_bind (zr_of (zReader_appendAtom_r N  _ hσ) (congrArg (Reader_appendAtom N) rfl)) (fun r94 s94σ hr94 hs94 => ?_)
  dsimp only
  exact zr_of (zReader_readPattern_b97_r N k49 k49' hk49 _ hx2 _ hs94) (congr (congrArg (Reader_readPattern_b97 N k49') rfl) rfl)
def zReader_readPattern_b85 (N : Nat) (k49 : Int → z_S → Option (Int × z_S)) (x2 : Int) (σ : z_S) : Option (Int × z_S) := if (σ.1 19) = (-1) then zReader_readPattern_b97 N k49 x2 σ else zReader_readPattern_b93 N k49 x2 σ
theorem zReader_readPattern_b85_r (N : Nat) (k49 : Int → z_S → Option (Int × z_S)) (k49' : Int32 → g_S → Option (Int32 × g_S)) (hk49 : ∀ (y0 : Int) (_ : zin y0) (σ : z_S), zR σ → zrel (k49 y0 σ) (k49' (zI y0) (zo σ))) (x2 : Int) (hx2 : zin x2) (σ : z_S) (hσ : zR σ) : zrel (zReader_readPattern_b85 N k49 x2 σ) (Reader_readPattern_b85 N k49' (zI x2) (zo σ)) := by
  unfold zReader_readPattern_b85 Reader_readPattern_b85
  refine zr_ite (zI_eq (zo_fld rfl 19) (zl_m1) (hσ.1 19) (by decide)) ?_ ?_
  · exact zr_of (zReader_readPattern_b97_r N k49 k49' hk49 _ hx2 _ hσ) (congr (congrArg (Reader_readPattern_b97 N k49') rfl) rfl)
  · exact zr_of (zReader_readPattern_b93_r N k49 k49' hk49 _ hx2 _ hσ) (congr (congrArg (Reader_readPattern_b93 N k49') rfl) rfl)
def zReader_readPattern_b74 (N : Nat) (k49 : Int → z_S → Option (Int × z_S)) (x2 : Int) (σ : z_S) : Option (Int × z_S) := (zReader_readTerm N σ).bind fun q75 => if (0 : Int) ≤ (q75.2.1 13) then zReader_readPattern_b97 N k49 x2 q75.2 else zReader_readPattern_b85 N k49 x2 q75.2
theorem zReader_readPattern_b74_r (N : Nat) (k49 : Int → z_S → Option (Int × z_S)) (k49' : Int32 → g_S → Option (Int32 × g_S)) (hk49 : ∀ (y0 : Int) (_ : zin y0) (σ : z_S), zR σ → zrel (k49 y0 σ) (k49' (zI y0) (zo σ))) (x2 : Int) (hx2 : zin x2) (σ : z_S) (hσ : zR σ) : zrel (zReader_readPattern_b74 N k49 x2 σ) (Reader_readPattern_b74 N k49' (zI x2) (zo σ)) := by
  unfold zReader_readPattern_b74 Reader_readPattern_b74
  refine zr_bind (zr_of (zReader_readTerm_r N  _ hσ) (congrArg (Reader_readTerm N) rfl)) (fun r75 s75σ hr75 hs75 => ?_)
  dsimp only
  refine zr_ite (zI_le (zl_0) (zo_fld rfl 13) (by decide) (hs75.1 13)) ?_ ?_
  · exact zr_of (zReader_readPattern_b97_r N k49 k49' hk49 _ hx2 _ hs75) (congr (congrArg (Reader_readPattern_b97 N k49') rfl) rfl)
  · exact zr_of (zReader_readPattern_b85_r N k49 k49' hk49 _ hx2 _ hs75) (congr (congrArg (Reader_readPattern_b85 N k49') rfl) rfl)
def zReader_readPattern_b67 (N : Nat) (k49 : Int → z_S → Option (Int × z_S)) (x2 : Int) (σ : z_S) : Option (Int × z_S) := if (0 : Int) ≤ (σ.1 13) then zReader_readPattern_b103 N σ else zReader_readPattern_b74 N k49 x2 σ
theorem zReader_readPattern_b67_r (N : Nat) (k49 : Int → z_S → Option (Int × z_S)) (k49' : Int32 → g_S → Option (Int32 × g_S)) (hk49 : ∀ (y0 : Int) (_ : zin y0) (σ : z_S), zR σ → zrel (k49 y0 σ) (k49' (zI y0) (zo σ))) (x2 : Int) (hx2 : zin x2) (σ : z_S) (hσ : zR σ) : zrel (zReader_readPattern_b67 N k49 x2 σ) (Reader_readPattern_b67 N k49' (zI x2) (zo σ)) := by
  unfold zReader_readPattern_b67 Reader_readPattern_b67
  refine zr_ite (zI_le (zl_0) (zo_fld rfl 13) (by decide) (hσ.1 13)) ?_ ?_
  · exact zr_of (zReader_readPattern_b103_r N  _ hσ) (congrArg (Reader_readPattern_b103 N) rfl)
  · exact zr_of (zReader_readPattern_b74_r N k49 k49' hk49 _ hx2 _ hσ) (congr (congrArg (Reader_readPattern_b74 N k49') rfl) rfl)
def zReader_readPattern_b56 (N : Nat) (k49 : Int → z_S → Option (Int × z_S)) (x2 : Int) (σ : z_S) : Option (Int × z_S) := if (σ.1 11) ≤ (σ.1 12) then zReader_readPattern_b103 N σ else zReader_readPattern_b67 N k49 x2 σ
theorem zReader_readPattern_b56_r (N : Nat) (k49 : Int → z_S → Option (Int × z_S)) (k49' : Int32 → g_S → Option (Int32 × g_S)) (hk49 : ∀ (y0 : Int) (_ : zin y0) (σ : z_S), zR σ → zrel (k49 y0 σ) (k49' (zI y0) (zo σ))) (x2 : Int) (hx2 : zin x2) (σ : z_S) (hσ : zR σ) : zrel (zReader_readPattern_b56 N k49 x2 σ) (Reader_readPattern_b56 N k49' (zI x2) (zo σ)) := by
  unfold zReader_readPattern_b56 Reader_readPattern_b56
  refine zr_ite (zI_le (zo_fld rfl 11) (zo_fld rfl 12) (hσ.1 11) (hσ.1 12)) ?_ ?_
  · exact zr_of (zReader_readPattern_b103_r N  _ hσ) (congrArg (Reader_readPattern_b103 N) rfl)
  · exact zr_of (zReader_readPattern_b67_r N k49 k49' hk49 _ hx2 _ hσ) (congr (congrArg (Reader_readPattern_b67 N k49') rfl) rfl)
def zReader_readPattern_b49 (N : Nat) (k49 : Int → z_S → Option (Int × z_S)) (x2 : Int) (σ : z_S) : Option (Int × z_S) := if (200 : Int) ≤ x2 then zReader_readPattern_b103 N σ else zReader_readPattern_b56 N k49 x2 σ
theorem zReader_readPattern_b49_r (N : Nat) (k49 : Int → z_S → Option (Int × z_S)) (k49' : Int32 → g_S → Option (Int32 × g_S)) (hk49 : ∀ (y0 : Int) (_ : zin y0) (σ : z_S), zR σ → zrel (k49 y0 σ) (k49' (zI y0) (zo σ))) (x2 : Int) (hx2 : zin x2) (σ : z_S) (hσ : zR σ) : zrel (zReader_readPattern_b49 N k49 x2 σ) (Reader_readPattern_b49 N k49' (zI x2) (zo σ)) := by
  unfold zReader_readPattern_b49 Reader_readPattern_b49
  refine zr_ite (zI_le (zl_200) rfl (by decide) hx2) ?_ ?_
  · exact zr_of (zReader_readPattern_b103_r N  _ hσ) (congrArg (Reader_readPattern_b103 N) rfl)
  · exact zr_of (zReader_readPattern_b56_r N k49 k49' hk49 _ hx2 _ hσ) (congr (congrArg (Reader_readPattern_b56 N k49') rfl) rfl)
def zReader_readPattern_l49 (N : Nat) : Nat → Int → z_S → Option (Int × z_S)
  | 0 => fun _ _ => none
  | n + 1 => fun x2 σ => zReader_readPattern_b49 N (zReader_readPattern_l49 N n) x2 σ
theorem zReader_readPattern_l49_r (N : Nat) (n : Nat) : ∀ (x2 : Int) (hx2 : zin x2) (σ : z_S) (_ : zR σ), zrel (zReader_readPattern_l49 N n x2 σ) (Reader_readPattern_l49 N n (zI x2) (zo σ)) := by
  induction n with
  | zero => intro x2 hx2 σ hσ r s h; cases h
  | succ n ih => intro x2 hx2 σ hσ; exact zReader_readPattern_b49_r N _ _ (fun x2 hx2 σ hσ => ih x2 hx2 σ hσ) x2 hx2 σ hσ
def zReader_readPattern_b0 (N : Nat) (x1 : Int) (σ : z_S) : Option (Int × z_S) := (zProgram_clear N (zF (zF (zF (zF (zF σ 11 x1) 12 0) 13 (-1)) 14 0) 19 (-1))).bind fun q29 => (zProgram_addNode N 0 0 0 q29.2).bind fun q39 => (zReader_beginAlternative N q39.2).bind fun q44 => zReader_readPattern_l49 N N 0 q44.2
theorem zReader_readPattern_b0_r (N : Nat) (x1 : Int) (hx1 : zin x1) (σ : z_S) (hσ : zR σ) : zrel (zReader_readPattern_b0 N x1 σ) (Reader_readPattern_b0 N (zI x1) (zo σ)) := by
  unfold zReader_readPattern_b0 Reader_readPattern_b0
  refine zr_bind (zr_of (zProgram_clear_r N  _ (zR_F (k := 19) (zR_F (k := 14) (zR_F (k := 13) (zR_F (k := 12) (zR_F (k := 11) hσ hx1) (by decide)) (by decide)) (by decide)) (by decide))) (congrArg (Program_clear N) (zo_F (k := 19) (zo_F (k := 14) (zo_F (k := 13) (zo_F (k := 12) (zo_F (k := 11) rfl rfl) (zl_0)) (zl_m1)) (zl_0)) (zl_m1)))) (fun r29 s29σ hr29 hs29 => ?_)
  dsimp only
  refine zr_bind (zr_of (zProgram_addNode_r N _ (by decide) _ (by decide) _ (by decide) _ hs29) (congr (congr (congr (congrArg (Program_addNode N) (zl_0)) (zl_0)) (zl_0)) rfl)) (fun r39 s39σ hr39 hs39 => ?_)
  dsimp only
  refine zr_bind (zr_of (zReader_beginAlternative_r N  _ hs39) (congrArg (Reader_beginAlternative N) rfl)) (fun r44 s44σ hr44 hs44 => ?_)
  dsimp only
  exact zr_of (zReader_readPattern_l49_r N N _ (by decide) _ hs44) (congr (congrArg (Reader_readPattern_l49 N N) (zl_0)) rfl)
def zReader_readPattern (N : Nat) (x1 : Int) (σ : z_S) : Option (Int × z_S) := zReader_readPattern_b0 N x1 σ
theorem zReader_readPattern_r (N : Nat) (x1 : Int) (hx1 : zin x1) (σ : z_S) (hσ : zR σ) : zrel (zReader_readPattern N x1 σ) (Reader_readPattern N (zI x1) (zo σ)) := by
  unfold zReader_readPattern Reader_readPattern
  exact zr_of (zReader_readPattern_b0_r N _ hx1 _ hσ) (congr (congrArg (Reader_readPattern_b0 N) rfl) rfl)
def zMachine_refuel_b0 (N : Nat) (x1 : Int) (σ : z_S) : Option (Int × z_S) := some (0, (zF (zF σ 25 x1) 27 0))
theorem zMachine_refuel_b0_r (N : Nat) (x1 : Int) (hx1 : zin x1) (σ : z_S) (hσ : zR σ) : zrel (zMachine_refuel_b0 N x1 σ) (Machine_refuel_b0 N (zI x1) (zo σ)) := by
  unfold zMachine_refuel_b0 Machine_refuel_b0
  exact zr_some (zl_0) (by decide) (zo_F (k := 27) (zo_F (k := 25) rfl rfl) (zl_0)) (zR_F (k := 27) (zR_F (k := 25) hσ hx1) (by decide))
def zMachine_refuel (N : Nat) (x1 : Int) (σ : z_S) : Option (Int × z_S) := zMachine_refuel_b0 N x1 σ
theorem zMachine_refuel_r (N : Nat) (x1 : Int) (hx1 : zin x1) (σ : z_S) (hσ : zR σ) : zrel (zMachine_refuel N x1 σ) (Machine_refuel N (zI x1) (zo σ)) := by
  unfold zMachine_refuel Machine_refuel
  exact zr_of (zMachine_refuel_b0_r N _ hx1 _ hσ) (congr (congrArg (Machine_refuel_b0 N) rfl) rfl)
def zMachine_groupBegin_b0 (N : Nat) (x1 : Int) (σ : z_S) : Option (Int × z_S) := if zin (0 + x1) then (zRows_read N 18 (0 + x1) σ).bind fun q7 => some (q7.1, q7.2) else none
theorem zMachine_groupBegin_b0_r (N : Nat) (x1 : Int) (hx1 : zin x1) (σ : z_S) (hσ : zR σ) : zrel (zMachine_groupBegin_b0 N x1 σ) (Machine_groupBegin_b0 N (zI x1) (zo σ)) := by
  unfold zMachine_groupBegin_b0 Machine_groupBegin_b0
  refine zr_g (fun g1 => ?_)
  refine zr_bind (zr_of (zRows_read_r N 18 _ g1 _ hσ) (congr (congrArg (Rows_read N 18) (zI_add (zl_0) rfl)) rfl)) (fun r7 s7σ hr7 hs7 => ?_)
  dsimp only
  exact zr_some rfl hr7 rfl hs7
def zMachine_groupBegin (N : Nat) (x1 : Int) (σ : z_S) : Option (Int × z_S) := zMachine_groupBegin_b0 N x1 σ
theorem zMachine_groupBegin_r (N : Nat) (x1 : Int) (hx1 : zin x1) (σ : z_S) (hσ : zR σ) : zrel (zMachine_groupBegin N x1 σ) (Machine_groupBegin N (zI x1) (zo σ)) := by
  unfold zMachine_groupBegin Machine_groupBegin
  exact zr_of (zMachine_groupBegin_b0_r N _ hx1 _ hσ) (congr (congrArg (Machine_groupBegin_b0 N) rfl) rfl)
def zMachine_groupEnd_b23 (N : Nat) (s0 : Int) (σ : z_S) : Option (Int × z_S) := some (s0, σ)
theorem zMachine_groupEnd_b23_r (N : Nat) (s0 : Int) (hs0 : zin s0) (σ : z_S) (hσ : zR σ) : zrel (zMachine_groupEnd_b23 N s0 σ) (Machine_groupEnd_b23 N (zI s0) (zo σ)) := by
  unfold zMachine_groupEnd_b23 Machine_groupEnd_b23
  exact zr_some rfl hs0 rfl hσ
def zMachine_groupEnd_b12 (N : Nat) (x1 : Int) (σ : z_S) : Option (Int × z_S) := if zin (21 + x1) then (zRows_read N 18 (21 + x1) σ).bind fun q20 => zMachine_groupEnd_b23 N q20.1 q20.2 else none
theorem zMachine_groupEnd_b12_r (N : Nat) (x1 : Int) (hx1 : zin x1) (σ : z_S) (hσ : zR σ) : zrel (zMachine_groupEnd_b12 N x1 σ) (Machine_groupEnd_b12 N (zI x1) (zo σ)) := by
  unfold zMachine_groupEnd_b12 Machine_groupEnd_b12
  refine zr_g (fun g1 => ?_)
  refine zr_bind (zr_of (zRows_read_r N 18 _ g1 _ hσ) (congr (congrArg (Rows_read N 18) (zI_add (zl_21) rfl)) rfl)) (fun r20 s20σ hr20 hs20 => ?_)
  dsimp only
  exact zr_of (zMachine_groupEnd_b23_r N _ hr20 _ hs20) (congr (congrArg (Machine_groupEnd_b23 N) rfl) rfl)
def zMachine_groupEnd_b8 (N : Nat) (σ : z_S) : Option (Int × z_S) := zMachine_groupEnd_b23 N (-1) σ
theorem zMachine_groupEnd_b8_r (N : Nat) (σ : z_S) (hσ : zR σ) : zrel (zMachine_groupEnd_b8 N σ) (Machine_groupEnd_b8 N (zo σ)) := by
  unfold zMachine_groupEnd_b8 Machine_groupEnd_b8
  exact zr_of (zMachine_groupEnd_b23_r N _ (by decide) _ hσ) (congr (congrArg (Machine_groupEnd_b23 N) (zl_m1)) rfl)
def zMachine_groupEnd_b0 (N : Nat) (x1 : Int) (σ : z_S) : Option (Int × z_S) := (zMachine_groupBegin N x1 σ).bind fun q2 => if (0 : Int) ≤ q2.1 then zMachine_groupEnd_b12 N x1 q2.2 else zMachine_groupEnd_b8 N q2.2
theorem zMachine_groupEnd_b0_r (N : Nat) (x1 : Int) (hx1 : zin x1) (σ : z_S) (hσ : zR σ) : zrel (zMachine_groupEnd_b0 N x1 σ) (Machine_groupEnd_b0 N (zI x1) (zo σ)) := by
  unfold zMachine_groupEnd_b0 Machine_groupEnd_b0
  refine zr_bind (zr_of (zMachine_groupBegin_r N _ hx1 _ hσ) (congr (congrArg (Machine_groupBegin N) rfl) rfl)) (fun r2 s2σ hr2 hs2 => ?_)
  dsimp only
  refine zr_ite (zI_le (zl_0) rfl (by decide) hr2) ?_ ?_
  · exact zr_of (zMachine_groupEnd_b12_r N _ hx1 _ hs2) (congr (congrArg (Machine_groupEnd_b12 N) rfl) rfl)
  · exact zr_of (zMachine_groupEnd_b8_r N  _ hs2) (congrArg (Machine_groupEnd_b8 N) rfl)
def zMachine_groupEnd (N : Nat) (x1 : Int) (σ : z_S) : Option (Int × z_S) := zMachine_groupEnd_b0 N x1 σ
theorem zMachine_groupEnd_r (N : Nat) (x1 : Int) (hx1 : zin x1) (σ : z_S) (hσ : zR σ) : zrel (zMachine_groupEnd N x1 σ) (Machine_groupEnd N (zI x1) (zo σ)) := by
  unfold zMachine_groupEnd Machine_groupEnd
  exact zr_of (zMachine_groupEnd_b0_r N _ hx1 _ hσ) (congr (congrArg (Machine_groupEnd_b0 N) rfl) rfl)
def zMachine_takesStep_b13 (N : Nat) (σ : z_S) : Option (Int × z_S) := if zin ((σ.1 27) + 1) then some (1, (zF σ 27 ((σ.1 27) + 1))) else none
theorem zMachine_takesStep_b13_r (N : Nat) (σ : z_S) (hσ : zR σ) : zrel (zMachine_takesStep_b13 N σ) (Machine_takesStep_b13 N (zo σ)) := by
  unfold zMachine_takesStep_b13 Machine_takesStep_b13
  refine zr_g (fun g1 => ?_)
  exact zr_some (zl_1) (by decide) (zo_F (k := 27) rfl (zI_add (zo_fld rfl 27) (zl_1))) (zR_F (k := 27) hσ g1)
def zMachine_takesStep_b11 (N : Nat) (σ : z_S) : Option (Int × z_S) := some (0, σ)
theorem zMachine_takesStep_b11_r (N : Nat) (σ : z_S) (hσ : zR σ) : zrel (zMachine_takesStep_b11 N σ) (Machine_takesStep_b11 N (zo σ)) := by
  unfold zMachine_takesStep_b11 Machine_takesStep_b11
  exact zr_some (zl_0) (by decide) rfl hσ
def zMachine_takesStep_b0 (N : Nat) (σ : z_S) : Option (Int × z_S) := if (σ.1 27) < (σ.1 25) then zMachine_takesStep_b13 N σ else zMachine_takesStep_b11 N σ
theorem zMachine_takesStep_b0_r (N : Nat) (σ : z_S) (hσ : zR σ) : zrel (zMachine_takesStep_b0 N σ) (Machine_takesStep_b0 N (zo σ)) := by
  unfold zMachine_takesStep_b0 Machine_takesStep_b0
  refine zr_ite (zI_lt (zo_fld rfl 27) (zo_fld rfl 25) (hσ.1 27) (hσ.1 25)) ?_ ?_
  · exact zr_of (zMachine_takesStep_b13_r N  _ hσ) (congrArg (Machine_takesStep_b13 N) rfl)
  · exact zr_of (zMachine_takesStep_b11_r N  _ hσ) (congrArg (Machine_takesStep_b11 N) rfl)
def zMachine_takesStep (N : Nat) (σ : z_S) : Option (Int × z_S) := zMachine_takesStep_b0 N σ
theorem zMachine_takesStep_r (N : Nat) (σ : z_S) (hσ : zR σ) : zrel (zMachine_takesStep N σ) (Machine_takesStep N (zo σ)) := by
  unfold zMachine_takesStep Machine_takesStep
  exact zr_of (zMachine_takesStep_b0_r N  _ hσ) (congrArg (Machine_takesStep_b0 N) rfl)
def zMachine_unitAt_b31 (N : Nat) (s0 : Int) (σ : z_S) : Option (Int × z_S) := some (s0, σ)
theorem zMachine_unitAt_b31_r (N : Nat) (s0 : Int) (hs0 : zin s0) (σ : z_S) (hσ : zR σ) : zrel (zMachine_unitAt_b31 N s0 σ) (Machine_unitAt_b31 N (zI s0) (zo σ)) := by
  unfold zMachine_unitAt_b31 Machine_unitAt_b31
  exact zr_some rfl hs0 rfl hσ
def zMachine_unitAt_b30 (N : Nat) (σ : z_S) : Option (Int × z_S) := zMachine_unitAt_b31 N (-1) σ
theorem zMachine_unitAt_b30_r (N : Nat) (σ : z_S) (hσ : zR σ) : zrel (zMachine_unitAt_b30 N σ) (Machine_unitAt_b30 N (zo σ)) := by
  unfold zMachine_unitAt_b30 Machine_unitAt_b30
  exact zr_of (zMachine_unitAt_b31_r N _ (by decide) _ hσ) (congr (congrArg (Machine_unitAt_b31 N) (zl_m1)) rfl)
def zMachine_unitAt_b21 (N : Nat) (x1 : Int) (σ : z_S) : Option (Int × z_S) := if zIn x1 600 then zMachine_unitAt_b31 N (σ.2 17 (x1).toNat) σ else none
theorem zMachine_unitAt_b21_r (N : Nat) (x1 : Int) (hx1 : zin x1) (σ : z_S) (hσ : zR σ) : zrel (zMachine_unitAt_b21 N x1 σ) (Machine_unitAt_b21 N (zI x1) (zo σ)) := by
  unfold zMachine_unitAt_b21 Machine_unitAt_b21
  refine zr_gg (zg_in rfl hx1) (fun g1 => ?_)
  exact zr_of (zMachine_unitAt_b31_r N _ (hσ.2 17 _) _ hσ) (congr (congrArg (Machine_unitAt_b31 N) (zo_get (j := 17) rfl rfl hx1)) rfl)
def zMachine_unitAt_b12 (N : Nat) (x1 : Int) (σ : z_S) : Option (Int × z_S) := if (600 : Int) ≤ x1 then zMachine_unitAt_b30 N σ else zMachine_unitAt_b21 N x1 σ
theorem zMachine_unitAt_b12_r (N : Nat) (x1 : Int) (hx1 : zin x1) (σ : z_S) (hσ : zR σ) : zrel (zMachine_unitAt_b12 N x1 σ) (Machine_unitAt_b12 N (zI x1) (zo σ)) := by
  unfold zMachine_unitAt_b12 Machine_unitAt_b12
  refine zr_ite (zI_le (zI_len (n := lenC 17)) rfl (zin_nat (lenC_lt 17)) hx1) ?_ ?_
  · exact zr_of (zMachine_unitAt_b30_r N  _ hσ) (congrArg (Machine_unitAt_b30 N) rfl)
  · exact zr_of (zMachine_unitAt_b21_r N _ hx1 _ hσ) (congr (congrArg (Machine_unitAt_b21 N) rfl) rfl)
def zMachine_unitAt_b4 (N : Nat) (x1 : Int) (σ : z_S) : Option (Int × z_S) := if (σ.1 26) ≤ x1 then zMachine_unitAt_b30 N σ else zMachine_unitAt_b12 N x1 σ
theorem zMachine_unitAt_b4_r (N : Nat) (x1 : Int) (hx1 : zin x1) (σ : z_S) (hσ : zR σ) : zrel (zMachine_unitAt_b4 N x1 σ) (Machine_unitAt_b4 N (zI x1) (zo σ)) := by
  unfold zMachine_unitAt_b4 Machine_unitAt_b4
  refine zr_ite (zI_le (zo_fld rfl 26) rfl (hσ.1 26) hx1) ?_ ?_
  · exact zr_of (zMachine_unitAt_b30_r N  _ hσ) (congrArg (Machine_unitAt_b30 N) rfl)
  · exact zr_of (zMachine_unitAt_b12_r N _ hx1 _ hσ) (congr (congrArg (Machine_unitAt_b12 N) rfl) rfl)
def zMachine_unitAt_b0 (N : Nat) (x1 : Int) (σ : z_S) : Option (Int × z_S) := if x1 < 0 then zMachine_unitAt_b30 N σ else zMachine_unitAt_b4 N x1 σ
theorem zMachine_unitAt_b0_r (N : Nat) (x1 : Int) (hx1 : zin x1) (σ : z_S) (hσ : zR σ) : zrel (zMachine_unitAt_b0 N x1 σ) (Machine_unitAt_b0 N (zI x1) (zo σ)) := by
  unfold zMachine_unitAt_b0 Machine_unitAt_b0
  refine zr_ite (zI_lt rfl (zl_0) hx1 (by decide)) ?_ ?_
  · exact zr_of (zMachine_unitAt_b30_r N  _ hσ) (congrArg (Machine_unitAt_b30 N) rfl)
  · exact zr_of (zMachine_unitAt_b4_r N _ hx1 _ hσ) (congr (congrArg (Machine_unitAt_b4 N) rfl) rfl)
def zMachine_unitAt (N : Nat) (x1 : Int) (σ : z_S) : Option (Int × z_S) := zMachine_unitAt_b0 N x1 σ
theorem zMachine_unitAt_r (N : Nat) (x1 : Int) (hx1 : zin x1) (σ : z_S) (hσ : zR σ) : zrel (zMachine_unitAt N x1 σ) (Machine_unitAt N (zI x1) (zo σ)) := by
  unfold zMachine_unitAt Machine_unitAt
  exact zr_of (zMachine_unitAt_b0_r N _ hx1 _ hσ) (congr (congrArg (Machine_unitAt_b0 N) rfl) rfl)
def zMachine_isSame_b31 (N : Nat) (s0 : Int) (σ : z_S) : Option (Int × z_S) := if zB s0 then some (s0, σ) else none
theorem zMachine_isSame_b31_r (N : Nat) (s0 : Int) (hs0 : zin s0) (σ : z_S) (hσ : zR σ) : zrel (zMachine_isSame_b31 N s0 σ) (Machine_isSame_b31 N (zI s0) (zo σ)) := by
  unfold zMachine_isSame_b31 Machine_isSame_b31
  refine zr_gg (zg_B rfl) (fun g1 => ?_)
  exact zr_some rfl hs0 rfl hσ
def zMachine_isSame_b26 (N : Nat) (σ : z_S) : Option (Int × z_S) := zMachine_isSame_b31 N 1 σ
theorem zMachine_isSame_b26_r (N : Nat) (σ : z_S) (hσ : zR σ) : zrel (zMachine_isSame_b26 N σ) (Machine_isSame_b26 N (zo σ)) := by
  unfold zMachine_isSame_b26 Machine_isSame_b26
  exact zr_of (zMachine_isSame_b31_r N _ (by decide) _ hσ) (congr (congrArg (Machine_isSame_b31 N) (zl_1)) rfl)
def zMachine_isSame_b30 (N : Nat) (σ : z_S) : Option (Int × z_S) := zMachine_isSame_b31 N 0 σ
theorem zMachine_isSame_b30_r (N : Nat) (σ : z_S) (hσ : zR σ) : zrel (zMachine_isSame_b30 N σ) (Machine_isSame_b30 N (zo σ)) := by
  unfold zMachine_isSame_b30 Machine_isSame_b30
  exact zr_of (zMachine_isSame_b31_r N _ (by decide) _ hσ) (congr (congrArg (Machine_isSame_b31 N) (zl_0)) rfl)
def zMachine_isSame_b15 (N : Nat) (x1 : Int) (x2 : Int) (σ : z_S) : Option (Int × z_S) := (zUnits_upper N x1 σ).bind fun q16 => (zUnits_upper N x2 q16.2).bind fun q20 => if q16.1 = q20.1 then zMachine_isSame_b26 N q20.2 else zMachine_isSame_b30 N q20.2
theorem zMachine_isSame_b15_r (N : Nat) (x1 : Int) (hx1 : zin x1) (x2 : Int) (hx2 : zin x2) (σ : z_S) (hσ : zR σ) : zrel (zMachine_isSame_b15 N x1 x2 σ) (Machine_isSame_b15 N (zI x1) (zI x2) (zo σ)) := by
  unfold zMachine_isSame_b15 Machine_isSame_b15
  refine zr_bind (zr_of (zUnits_upper_r N _ hx1 _ hσ) (congr (congrArg (Units_upper N) rfl) rfl)) (fun r16 s16σ hr16 hs16 => ?_)
  dsimp only
  refine zr_bind (zr_of (zUnits_upper_r N _ hx2 _ hs16) (congr (congrArg (Units_upper N) rfl) rfl)) (fun r20 s20σ hr20 hs20 => ?_)
  dsimp only
  refine zr_ite (zI_eq rfl rfl hr16 hr20) ?_ ?_
  · exact zr_of (zMachine_isSame_b26_r N  _ hs20) (congrArg (Machine_isSame_b26 N) rfl)
  · exact zr_of (zMachine_isSame_b30_r N  _ hs20) (congrArg (Machine_isSame_b30 N) rfl)
def zMachine_isSame_b5 (N : Nat) (x1 : Int) (x2 : Int) (σ : z_S) : Option (Int × z_S) := if (σ.1 9) = 0 then zMachine_isSame_b30 N σ else zMachine_isSame_b15 N x1 x2 σ
theorem zMachine_isSame_b5_r (N : Nat) (x1 : Int) (hx1 : zin x1) (x2 : Int) (hx2 : zin x2) (σ : z_S) (hσ : zR σ) : zrel (zMachine_isSame_b5 N x1 x2 σ) (Machine_isSame_b5 N (zI x1) (zI x2) (zo σ)) := by
  unfold zMachine_isSame_b5 Machine_isSame_b5
  refine zr_ite (zI_eq (zo_fld rfl 9) (zl_0) (hσ.1 9) (by decide)) ?_ ?_
  · exact zr_of (zMachine_isSame_b30_r N  _ hσ) (congrArg (Machine_isSame_b30 N) rfl)
  · exact zr_of (zMachine_isSame_b15_r N _ hx1 _ hx2 _ hσ) (congr (congr (congrArg (Machine_isSame_b15 N) rfl) rfl) rfl)
def zMachine_isSame_b0 (N : Nat) (x1 : Int) (x2 : Int) (σ : z_S) : Option (Int × z_S) := if x1 = x2 then zMachine_isSame_b26 N σ else zMachine_isSame_b5 N x1 x2 σ
theorem zMachine_isSame_b0_r (N : Nat) (x1 : Int) (hx1 : zin x1) (x2 : Int) (hx2 : zin x2) (σ : z_S) (hσ : zR σ) : zrel (zMachine_isSame_b0 N x1 x2 σ) (Machine_isSame_b0 N (zI x1) (zI x2) (zo σ)) := by
  unfold zMachine_isSame_b0 Machine_isSame_b0
  refine zr_ite (zI_eq rfl rfl hx1 hx2) ?_ ?_
  · exact zr_of (zMachine_isSame_b26_r N  _ hσ) (congrArg (Machine_isSame_b26 N) rfl)
  · exact zr_of (zMachine_isSame_b5_r N _ hx1 _ hx2 _ hσ) (congr (congr (congrArg (Machine_isSame_b5 N) rfl) rfl) rfl)
def zMachine_isSame (N : Nat) (x1 : Int) (x2 : Int) (σ : z_S) : Option (Int × z_S) := zMachine_isSame_b0 N x1 x2 σ
theorem zMachine_isSame_r (N : Nat) (x1 : Int) (hx1 : zin x1) (x2 : Int) (hx2 : zin x2) (σ : z_S) (hσ : zR σ) : zrel (zMachine_isSame N x1 x2 σ) (Machine_isSame N (zI x1) (zI x2) (zo σ)) := by
  unfold zMachine_isSame Machine_isSame
  exact zr_of (zMachine_isSame_b0_r N _ hx1 _ hx2 _ hσ) (congr (congr (congrArg (Machine_isSame_b0 N) rfl) rfl) rfl)
def zMachine_hasMember_b137 (N : Nat) (σ : z_S) : Option (Int × z_S) := some (0, σ)
theorem zMachine_hasMember_b137_r (N : Nat) (σ : z_S) (hσ : zR σ) : zrel (zMachine_hasMember_b137 N σ) (Machine_hasMember_b137 N (zo σ)) := by
  unfold zMachine_hasMember_b137 Machine_hasMember_b137
  exact zr_some (zl_0) (by decide) rfl hσ
def zMachine_hasMember_b131 (N : Nat) (k23 : Int → Int → Int → Int → z_S → Option (Int × z_S)) (x2 : Int) (x3 : Int) (x4 : Int) (x5 : Int) (σ : z_S) : Option (Int × z_S) := if zin (x5 + 1) then k23 x2 x3 x4 (x5 + 1) σ else none
theorem zMachine_hasMember_b131_r (N : Nat) (k23 : Int → Int → Int → Int → z_S → Option (Int × z_S)) (k23' : Int32 → Int32 → Int32 → Int32 → g_S → Option (Int32 × g_S)) (hk23 : ∀ (y0 : Int) (_ : zin y0) (y1 : Int) (_ : zin y1) (y2 : Int) (_ : zin y2) (y3 : Int) (_ : zin y3) (σ : z_S), zR σ → zrel (k23 y0 y1 y2 y3 σ) (k23' (zI y0) (zI y1) (zI y2) (zI y3) (zo σ))) (x2 : Int) (hx2 : zin x2) (x3 : Int) (hx3 : zin x3) (x4 : Int) (hx4 : zin x4) (x5 : Int) (hx5 : zin x5) (σ : z_S) (hσ : zR σ) : zrel (zMachine_hasMember_b131 N k23 x2 x3 x4 x5 σ) (Machine_hasMember_b131 N k23' (zI x2) (zI x3) (zI x4) (zI x5) (zo σ)) := by
  unfold zMachine_hasMember_b131 Machine_hasMember_b131
  refine zr_g (fun g1 => ?_)
  exact zr_of (hk23 _ hx2 _ hx3 _ hx4 _ g1 _ hσ) (congr (congr (congr (congr (congrArg (k23') rfl) rfl) rfl) (zI_add rfl (zl_1))) rfl)
def zMachine_hasMember_b129 (N : Nat) (σ : z_S) : Option (Int × z_S) := some (1, σ)
theorem zMachine_hasMember_b129_r (N : Nat) (σ : z_S) (hσ : zR σ) : zrel (zMachine_hasMember_b129 N σ) (Machine_hasMember_b129 N (zo σ)) := by
  unfold zMachine_hasMember_b129 Machine_hasMember_b129
  exact zr_some (zl_1) (by decide) rfl hσ
def zMachine_hasMember_b122 (N : Nat) (k23 : Int → Int → Int → Int → z_S → Option (Int × z_S)) (x2 : Int) (x3 : Int) (x4 : Int) (x5 : Int) (s0 : Int) (σ : z_S) : Option (Int × z_S) := if s0 = 0 then zMachine_hasMember_b131 N k23 x2 x3 x4 x5 σ else zMachine_hasMember_b129 N σ
theorem zMachine_hasMember_b122_r (N : Nat) (k23 : Int → Int → Int → Int → z_S → Option (Int × z_S)) (k23' : Int32 → Int32 → Int32 → Int32 → g_S → Option (Int32 × g_S)) (hk23 : ∀ (y0 : Int) (_ : zin y0) (y1 : Int) (_ : zin y1) (y2 : Int) (_ : zin y2) (y3 : Int) (_ : zin y3) (σ : z_S), zR σ → zrel (k23 y0 y1 y2 y3 σ) (k23' (zI y0) (zI y1) (zI y2) (zI y3) (zo σ))) (x2 : Int) (hx2 : zin x2) (x3 : Int) (hx3 : zin x3) (x4 : Int) (hx4 : zin x4) (x5 : Int) (hx5 : zin x5) (s0 : Int) (hs0 : zin s0) (σ : z_S) (hσ : zR σ) : zrel (zMachine_hasMember_b122 N k23 x2 x3 x4 x5 s0 σ) (Machine_hasMember_b122 N k23' (zI x2) (zI x3) (zI x4) (zI x5) (zI s0) (zo σ)) := by
  unfold zMachine_hasMember_b122 Machine_hasMember_b122
  refine zr_ite (zI_eq rfl (zl_0) hs0 (by decide)) ?_ ?_
  · exact zr_of (zMachine_hasMember_b131_r N k23 k23' hk23 _ hx2 _ hx3 _ hx4 _ hx5 _ hσ) (congr (congr (congr (congr (congrArg (Machine_hasMember_b131 N k23') rfl) rfl) rfl) rfl) rfl)
  · exact zr_of (zMachine_hasMember_b129_r N  _ hσ) (congrArg (Machine_hasMember_b129 N) rfl)
def zMachine_hasMember_b121 (N : Nat) (k23 : Int → Int → Int → Int → z_S → Option (Int × z_S)) (x2 : Int) (x3 : Int) (x4 : Int) (x5 : Int) (σ : z_S) : Option (Int × z_S) := zMachine_hasMember_b122 N k23 x2 x3 x4 x5 0 σ
theorem zMachine_hasMember_b121_r (N : Nat) (k23 : Int → Int → Int → Int → z_S → Option (Int × z_S)) (k23' : Int32 → Int32 → Int32 → Int32 → g_S → Option (Int32 × g_S)) (hk23 : ∀ (y0 : Int) (_ : zin y0) (y1 : Int) (_ : zin y1) (y2 : Int) (_ : zin y2) (y3 : Int) (_ : zin y3) (σ : z_S), zR σ → zrel (k23 y0 y1 y2 y3 σ) (k23' (zI y0) (zI y1) (zI y2) (zI y3) (zo σ))) (x2 : Int) (hx2 : zin x2) (x3 : Int) (hx3 : zin x3) (x4 : Int) (hx4 : zin x4) (x5 : Int) (hx5 : zin x5) (σ : z_S) (hσ : zR σ) : zrel (zMachine_hasMember_b121 N k23 x2 x3 x4 x5 σ) (Machine_hasMember_b121 N k23' (zI x2) (zI x3) (zI x4) (zI x5) (zo σ)) := by
  unfold zMachine_hasMember_b121 Machine_hasMember_b121
  exact zr_of (zMachine_hasMember_b122_r N k23 k23' hk23 _ hx2 _ hx3 _ hx4 _ hx5 _ (by decide) _ hσ) (congr (congr (congr (congr (congr (congrArg (Machine_hasMember_b122 N k23') rfl) rfl) rfl) rfl) (zl_0)) rfl)
def zMachine_hasMember_b117 (N : Nat) (k23 : Int → Int → Int → Int → z_S → Option (Int × z_S)) (x2 : Int) (x3 : Int) (x4 : Int) (x5 : Int) (σ : z_S) : Option (Int × z_S) := zMachine_hasMember_b122 N k23 x2 x3 x4 x5 1 σ
theorem zMachine_hasMember_b117_r (N : Nat) (k23 : Int → Int → Int → Int → z_S → Option (Int × z_S)) (k23' : Int32 → Int32 → Int32 → Int32 → g_S → Option (Int32 × g_S)) (hk23 : ∀ (y0 : Int) (_ : zin y0) (y1 : Int) (_ : zin y1) (y2 : Int) (_ : zin y2) (y3 : Int) (_ : zin y3) (σ : z_S), zR σ → zrel (k23 y0 y1 y2 y3 σ) (k23' (zI y0) (zI y1) (zI y2) (zI y3) (zo σ))) (x2 : Int) (hx2 : zin x2) (x3 : Int) (hx3 : zin x3) (x4 : Int) (hx4 : zin x4) (x5 : Int) (hx5 : zin x5) (σ : z_S) (hσ : zR σ) : zrel (zMachine_hasMember_b117 N k23 x2 x3 x4 x5 σ) (Machine_hasMember_b117 N k23' (zI x2) (zI x3) (zI x4) (zI x5) (zo σ)) := by
  unfold zMachine_hasMember_b117 Machine_hasMember_b117
  exact zr_of (zMachine_hasMember_b122_r N k23 k23' hk23 _ hx2 _ hx3 _ hx4 _ hx5 _ (by decide) _ hσ) (congr (congr (congr (congr (congr (congrArg (Machine_hasMember_b122 N k23') rfl) rfl) rfl) rfl) (zl_1)) rfl)
def zMachine_hasMember_b110 (N : Nat) (k23 : Int → Int → Int → Int → z_S → Option (Int × z_S)) (x2 : Int) (x3 : Int) (x4 : Int) (x5 : Int) (x7 : Int) (σ : z_S) : Option (Int × z_S) := if x7 < x4 then zMachine_hasMember_b121 N k23 x2 x3 x4 x5 σ else zMachine_hasMember_b117 N k23 x2 x3 x4 x5 σ
theorem zMachine_hasMember_b110_r (N : Nat) (k23 : Int → Int → Int → Int → z_S → Option (Int × z_S)) (k23' : Int32 → Int32 → Int32 → Int32 → g_S → Option (Int32 × g_S)) (hk23 : ∀ (y0 : Int) (_ : zin y0) (y1 : Int) (_ : zin y1) (y2 : Int) (_ : zin y2) (y3 : Int) (_ : zin y3) (σ : z_S), zR σ → zrel (k23 y0 y1 y2 y3 σ) (k23' (zI y0) (zI y1) (zI y2) (zI y3) (zo σ))) (x2 : Int) (hx2 : zin x2) (x3 : Int) (hx3 : zin x3) (x4 : Int) (hx4 : zin x4) (x5 : Int) (hx5 : zin x5) (x7 : Int) (hx7 : zin x7) (σ : z_S) (hσ : zR σ) : zrel (zMachine_hasMember_b110 N k23 x2 x3 x4 x5 x7 σ) (Machine_hasMember_b110 N k23' (zI x2) (zI x3) (zI x4) (zI x5) (zI x7) (zo σ)) := by
  unfold zMachine_hasMember_b110 Machine_hasMember_b110
  refine zr_ite (zI_lt rfl rfl hx7 hx4) ?_ ?_
  · exact zr_of (zMachine_hasMember_b121_r N k23 k23' hk23 _ hx2 _ hx3 _ hx4 _ hx5 _ hσ) (congr (congr (congr (congr (congrArg (Machine_hasMember_b121 N k23') rfl) rfl) rfl) rfl) rfl)
  · exact zr_of (zMachine_hasMember_b117_r N k23 k23' hk23 _ hx2 _ hx3 _ hx4 _ hx5 _ hσ) (congr (congr (congr (congr (congrArg (Machine_hasMember_b117 N k23') rfl) rfl) rfl) rfl) rfl)
def zMachine_hasMember_b103 (N : Nat) (k23 : Int → Int → Int → Int → z_S → Option (Int × z_S)) (x2 : Int) (x3 : Int) (x4 : Int) (x5 : Int) (x6 : Int) (x7 : Int) (σ : z_S) : Option (Int × z_S) := if x4 < x6 then zMachine_hasMember_b121 N k23 x2 x3 x4 x5 σ else zMachine_hasMember_b110 N k23 x2 x3 x4 x5 x7 σ
theorem zMachine_hasMember_b103_r (N : Nat) (k23 : Int → Int → Int → Int → z_S → Option (Int × z_S)) (k23' : Int32 → Int32 → Int32 → Int32 → g_S → Option (Int32 × g_S)) (hk23 : ∀ (y0 : Int) (_ : zin y0) (y1 : Int) (_ : zin y1) (y2 : Int) (_ : zin y2) (y3 : Int) (_ : zin y3) (σ : z_S), zR σ → zrel (k23 y0 y1 y2 y3 σ) (k23' (zI y0) (zI y1) (zI y2) (zI y3) (zo σ))) (x2 : Int) (hx2 : zin x2) (x3 : Int) (hx3 : zin x3) (x4 : Int) (hx4 : zin x4) (x5 : Int) (hx5 : zin x5) (x6 : Int) (hx6 : zin x6) (x7 : Int) (hx7 : zin x7) (σ : z_S) (hσ : zR σ) : zrel (zMachine_hasMember_b103 N k23 x2 x3 x4 x5 x6 x7 σ) (Machine_hasMember_b103 N k23' (zI x2) (zI x3) (zI x4) (zI x5) (zI x6) (zI x7) (zo σ)) := by
  unfold zMachine_hasMember_b103 Machine_hasMember_b103
  refine zr_ite (zI_lt rfl rfl hx4 hx6) ?_ ?_
  · exact zr_of (zMachine_hasMember_b121_r N k23 k23' hk23 _ hx2 _ hx3 _ hx4 _ hx5 _ hσ) (congr (congr (congr (congr (congrArg (Machine_hasMember_b121 N k23') rfl) rfl) rfl) rfl) rfl)
  · exact zr_of (zMachine_hasMember_b110_r N k23 k23' hk23 _ hx2 _ hx3 _ hx4 _ hx5 _ hx7 _ hσ) (congr (congr (congr (congr (congr (congrArg (Machine_hasMember_b110 N k23') rfl) rfl) rfl) rfl) rfl) rfl)
def zMachine_hasMember_b97 (N : Nat) (k23 : Int → Int → Int → Int → z_S → Option (Int × z_S)) (x2 : Int) (x3 : Int) (x4 : Int) (x5 : Int) (x6 : Int) (x7 : Int) (σ : z_S) : Option (Int × z_S) := if x3 ≤ x7 then zMachine_hasMember_b117 N k23 x2 x3 x4 x5 σ else zMachine_hasMember_b103 N k23 x2 x3 x4 x5 x6 x7 σ
theorem zMachine_hasMember_b97_r (N : Nat) (k23 : Int → Int → Int → Int → z_S → Option (Int × z_S)) (k23' : Int32 → Int32 → Int32 → Int32 → g_S → Option (Int32 × g_S)) (hk23 : ∀ (y0 : Int) (_ : zin y0) (y1 : Int) (_ : zin y1) (y2 : Int) (_ : zin y2) (y3 : Int) (_ : zin y3) (σ : z_S), zR σ → zrel (k23 y0 y1 y2 y3 σ) (k23' (zI y0) (zI y1) (zI y2) (zI y3) (zo σ))) (x2 : Int) (hx2 : zin x2) (x3 : Int) (hx3 : zin x3) (x4 : Int) (hx4 : zin x4) (x5 : Int) (hx5 : zin x5) (x6 : Int) (hx6 : zin x6) (x7 : Int) (hx7 : zin x7) (σ : z_S) (hσ : zR σ) : zrel (zMachine_hasMember_b97 N k23 x2 x3 x4 x5 x6 x7 σ) (Machine_hasMember_b97 N k23' (zI x2) (zI x3) (zI x4) (zI x5) (zI x6) (zI x7) (zo σ)) := by
  unfold zMachine_hasMember_b97 Machine_hasMember_b97
  refine zr_ite (zI_le rfl rfl hx3 hx7) ?_ ?_
  · exact zr_of (zMachine_hasMember_b117_r N k23 k23' hk23 _ hx2 _ hx3 _ hx4 _ hx5 _ hσ) (congr (congr (congr (congr (congrArg (Machine_hasMember_b117 N k23') rfl) rfl) rfl) rfl) rfl)
  · exact zr_of (zMachine_hasMember_b103_r N k23 k23' hk23 _ hx2 _ hx3 _ hx4 _ hx5 _ hx6 _ hx7 _ hσ) (congr (congr (congr (congr (congr (congr (congrArg (Machine_hasMember_b103 N k23') rfl) rfl) rfl) rfl) rfl) rfl) rfl)
def zMachine_hasMember_b91 (N : Nat) (k23 : Int → Int → Int → Int → z_S → Option (Int × z_S)) (x2 : Int) (x3 : Int) (x4 : Int) (x5 : Int) (x6 : Int) (x7 : Int) (σ : z_S) : Option (Int × z_S) := if x3 < x6 then zMachine_hasMember_b103 N k23 x2 x3 x4 x5 x6 x7 σ else zMachine_hasMember_b97 N k23 x2 x3 x4 x5 x6 x7 σ
theorem zMachine_hasMember_b91_r (N : Nat) (k23 : Int → Int → Int → Int → z_S → Option (Int × z_S)) (k23' : Int32 → Int32 → Int32 → Int32 → g_S → Option (Int32 × g_S)) (hk23 : ∀ (y0 : Int) (_ : zin y0) (y1 : Int) (_ : zin y1) (y2 : Int) (_ : zin y2) (y3 : Int) (_ : zin y3) (σ : z_S), zR σ → zrel (k23 y0 y1 y2 y3 σ) (k23' (zI y0) (zI y1) (zI y2) (zI y3) (zo σ))) (x2 : Int) (hx2 : zin x2) (x3 : Int) (hx3 : zin x3) (x4 : Int) (hx4 : zin x4) (x5 : Int) (hx5 : zin x5) (x6 : Int) (hx6 : zin x6) (x7 : Int) (hx7 : zin x7) (σ : z_S) (hσ : zR σ) : zrel (zMachine_hasMember_b91 N k23 x2 x3 x4 x5 x6 x7 σ) (Machine_hasMember_b91 N k23' (zI x2) (zI x3) (zI x4) (zI x5) (zI x6) (zI x7) (zo σ)) := by
  unfold zMachine_hasMember_b91 Machine_hasMember_b91
  refine zr_ite (zI_lt rfl rfl hx3 hx6) ?_ ?_
  · exact zr_of (zMachine_hasMember_b103_r N k23 k23' hk23 _ hx2 _ hx3 _ hx4 _ hx5 _ hx6 _ hx7 _ hσ) (congr (congr (congr (congr (congr (congr (congrArg (Machine_hasMember_b103 N k23') rfl) rfl) rfl) rfl) rfl) rfl) rfl)
  · exact zr_of (zMachine_hasMember_b97_r N k23 k23' hk23 _ hx2 _ hx3 _ hx4 _ hx5 _ hx6 _ hx7 _ hσ) (congr (congr (congr (congr (congr (congr (congrArg (Machine_hasMember_b97 N k23') rfl) rfl) rfl) rfl) rfl) rfl) rfl)
def zMachine_hasMember_b83 (N : Nat) (k23 : Int → Int → Int → Int → z_S → Option (Int × z_S)) (x2 : Int) (x3 : Int) (x4 : Int) (x5 : Int) (σ : z_S) : Option (Int × z_S) := zMachine_hasMember_b122 N k23 x2 x3 x4 x5 1 σ
theorem zMachine_hasMember_b83_r (N : Nat) (k23 : Int → Int → Int → Int → z_S → Option (Int × z_S)) (k23' : Int32 → Int32 → Int32 → Int32 → g_S → Option (Int32 × g_S)) (hk23 : ∀ (y0 : Int) (_ : zin y0) (y1 : Int) (_ : zin y1) (y2 : Int) (_ : zin y2) (y3 : Int) (_ : zin y3) (σ : z_S), zR σ → zrel (k23 y0 y1 y2 y3 σ) (k23' (zI y0) (zI y1) (zI y2) (zI y3) (zo σ))) (x2 : Int) (hx2 : zin x2) (x3 : Int) (hx3 : zin x3) (x4 : Int) (hx4 : zin x4) (x5 : Int) (hx5 : zin x5) (σ : z_S) (hσ : zR σ) : zrel (zMachine_hasMember_b83 N k23 x2 x3 x4 x5 σ) (Machine_hasMember_b83 N k23' (zI x2) (zI x3) (zI x4) (zI x5) (zo σ)) := by
  unfold zMachine_hasMember_b83 Machine_hasMember_b83
  exact zr_of (zMachine_hasMember_b122_r N k23 k23' hk23 _ hx2 _ hx3 _ hx4 _ hx5 _ (by decide) _ hσ) (congr (congr (congr (congr (congr (congrArg (Machine_hasMember_b122 N k23') rfl) rfl) rfl) rfl) (zl_1)) rfl)
def zMachine_hasMember_b87 (N : Nat) (k23 : Int → Int → Int → Int → z_S → Option (Int × z_S)) (x2 : Int) (x3 : Int) (x4 : Int) (x5 : Int) (σ : z_S) : Option (Int × z_S) := zMachine_hasMember_b122 N k23 x2 x3 x4 x5 0 σ
theorem zMachine_hasMember_b87_r (N : Nat) (k23 : Int → Int → Int → Int → z_S → Option (Int × z_S)) (k23' : Int32 → Int32 → Int32 → Int32 → g_S → Option (Int32 × g_S)) (hk23 : ∀ (y0 : Int) (_ : zin y0) (y1 : Int) (_ : zin y1) (y2 : Int) (_ : zin y2) (y3 : Int) (_ : zin y3) (σ : z_S), zR σ → zrel (k23 y0 y1 y2 y3 σ) (k23' (zI y0) (zI y1) (zI y2) (zI y3) (zo σ))) (x2 : Int) (hx2 : zin x2) (x3 : Int) (hx3 : zin x3) (x4 : Int) (hx4 : zin x4) (x5 : Int) (hx5 : zin x5) (σ : z_S) (hσ : zR σ) : zrel (zMachine_hasMember_b87 N k23 x2 x3 x4 x5 σ) (Machine_hasMember_b87 N k23' (zI x2) (zI x3) (zI x4) (zI x5) (zo σ)) := by
  unfold zMachine_hasMember_b87 Machine_hasMember_b87
  exact zr_of (zMachine_hasMember_b122_r N k23 k23' hk23 _ hx2 _ hx3 _ hx4 _ hx5 _ (by decide) _ hσ) (congr (congr (congr (congr (congr (congrArg (Machine_hasMember_b122 N k23') rfl) rfl) rfl) rfl) (zl_0)) rfl)
def zMachine_hasMember_b73 (N : Nat) (k23 : Int → Int → Int → Int → z_S → Option (Int × z_S)) (x2 : Int) (x3 : Int) (x4 : Int) (x5 : Int) (x6 : Int) (σ : z_S) : Option (Int × z_S) := (zUnits_inSet N x6 x4 σ).bind fun q77 => if q77.1 = 0 then zMachine_hasMember_b87 N k23 x2 x3 x4 x5 q77.2 else zMachine_hasMember_b83 N k23 x2 x3 x4 x5 q77.2
theorem zMachine_hasMember_b73_r (N : Nat) (k23 : Int → Int → Int → Int → z_S → Option (Int × z_S)) (k23' : Int32 → Int32 → Int32 → Int32 → g_S → Option (Int32 × g_S)) (hk23 : ∀ (y0 : Int) (_ : zin y0) (y1 : Int) (_ : zin y1) (y2 : Int) (_ : zin y2) (y3 : Int) (_ : zin y3) (σ : z_S), zR σ → zrel (k23 y0 y1 y2 y3 σ) (k23' (zI y0) (zI y1) (zI y2) (zI y3) (zo σ))) (x2 : Int) (hx2 : zin x2) (x3 : Int) (hx3 : zin x3) (x4 : Int) (hx4 : zin x4) (x5 : Int) (hx5 : zin x5) (x6 : Int) (hx6 : zin x6) (σ : z_S) (hσ : zR σ) : zrel (zMachine_hasMember_b73 N k23 x2 x3 x4 x5 x6 σ) (Machine_hasMember_b73 N k23' (zI x2) (zI x3) (zI x4) (zI x5) (zI x6) (zo σ)) := by
  unfold zMachine_hasMember_b73 Machine_hasMember_b73
  refine zr_bind (zr_of (zUnits_inSet_r N _ hx6 _ hx4 _ hσ) (congr (congr (congrArg (Units_inSet N) rfl) rfl) rfl)) (fun r77 s77σ hr77 hs77 => ?_)
  dsimp only
  refine zr_ite (zI_eq rfl (zl_0) hr77 (by decide)) ?_ ?_
  · exact zr_of (zMachine_hasMember_b87_r N k23 k23' hk23 _ hx2 _ hx3 _ hx4 _ hx5 _ hs77) (congr (congr (congr (congr (congrArg (Machine_hasMember_b87 N k23') rfl) rfl) rfl) rfl) rfl)
  · exact zr_of (zMachine_hasMember_b83_r N k23 k23' hk23 _ hx2 _ hx3 _ hx4 _ hx5 _ hs77) (congr (congr (congr (congr (congrArg (Machine_hasMember_b83 N k23') rfl) rfl) rfl) rfl) rfl)
def zMachine_hasMember_b64 (N : Nat) (k23 : Int → Int → Int → Int → z_S → Option (Int × z_S)) (x2 : Int) (x3 : Int) (x4 : Int) (x5 : Int) (x6 : Int) (σ : z_S) : Option (Int × z_S) := (zUnits_inSet N x6 x3 σ).bind fun q67 => if q67.1 = 0 then zMachine_hasMember_b73 N k23 x2 x3 x4 x5 x6 q67.2 else zMachine_hasMember_b83 N k23 x2 x3 x4 x5 q67.2
theorem zMachine_hasMember_b64_r (N : Nat) (k23 : Int → Int → Int → Int → z_S → Option (Int × z_S)) (k23' : Int32 → Int32 → Int32 → Int32 → g_S → Option (Int32 × g_S)) (hk23 : ∀ (y0 : Int) (_ : zin y0) (y1 : Int) (_ : zin y1) (y2 : Int) (_ : zin y2) (y3 : Int) (_ : zin y3) (σ : z_S), zR σ → zrel (k23 y0 y1 y2 y3 σ) (k23' (zI y0) (zI y1) (zI y2) (zI y3) (zo σ))) (x2 : Int) (hx2 : zin x2) (x3 : Int) (hx3 : zin x3) (x4 : Int) (hx4 : zin x4) (x5 : Int) (hx5 : zin x5) (x6 : Int) (hx6 : zin x6) (σ : z_S) (hσ : zR σ) : zrel (zMachine_hasMember_b64 N k23 x2 x3 x4 x5 x6 σ) (Machine_hasMember_b64 N k23' (zI x2) (zI x3) (zI x4) (zI x5) (zI x6) (zo σ)) := by
  unfold zMachine_hasMember_b64 Machine_hasMember_b64
  refine zr_bind (zr_of (zUnits_inSet_r N _ hx6 _ hx3 _ hσ) (congr (congr (congrArg (Units_inSet N) rfl) rfl) rfl)) (fun r67 s67σ hr67 hs67 => ?_)
  dsimp only
  refine zr_ite (zI_eq rfl (zl_0) hr67 (by decide)) ?_ ?_
  · exact zr_of (zMachine_hasMember_b73_r N k23 k23' hk23 _ hx2 _ hx3 _ hx4 _ hx5 _ hx6 _ hs67) (congr (congr (congr (congr (congr (congrArg (Machine_hasMember_b73 N k23') rfl) rfl) rfl) rfl) rfl) rfl)
  · exact zr_of (zMachine_hasMember_b83_r N k23 k23' hk23 _ hx2 _ hx3 _ hx4 _ hx5 _ hs67) (congr (congr (congr (congr (congrArg (Machine_hasMember_b83 N k23') rfl) rfl) rfl) rfl) rfl)
def zMachine_hasMember_b29 (N : Nat) (k23 : Int → Int → Int → Int → z_S → Option (Int × z_S)) (x2 : Int) (x3 : Int) (x4 : Int) (x5 : Int) (σ : z_S) : Option (Int × z_S) := (zRows_read N 5 x5 σ).bind fun q38 => (zRows_read N 6 x5 q38.2).bind fun q52 => if q38.1 < 65536 then zMachine_hasMember_b91 N k23 x2 x3 x4 x5 q38.1 q52.1 q52.2 else zMachine_hasMember_b64 N k23 x2 x3 x4 x5 q38.1 q52.2
theorem zMachine_hasMember_b29_r (N : Nat) (k23 : Int → Int → Int → Int → z_S → Option (Int × z_S)) (k23' : Int32 → Int32 → Int32 → Int32 → g_S → Option (Int32 × g_S)) (hk23 : ∀ (y0 : Int) (_ : zin y0) (y1 : Int) (_ : zin y1) (y2 : Int) (_ : zin y2) (y3 : Int) (_ : zin y3) (σ : z_S), zR σ → zrel (k23 y0 y1 y2 y3 σ) (k23' (zI y0) (zI y1) (zI y2) (zI y3) (zo σ))) (x2 : Int) (hx2 : zin x2) (x3 : Int) (hx3 : zin x3) (x4 : Int) (hx4 : zin x4) (x5 : Int) (hx5 : zin x5) (σ : z_S) (hσ : zR σ) : zrel (zMachine_hasMember_b29 N k23 x2 x3 x4 x5 σ) (Machine_hasMember_b29 N k23' (zI x2) (zI x3) (zI x4) (zI x5) (zo σ)) := by
  unfold zMachine_hasMember_b29 Machine_hasMember_b29
  refine zr_bind (zr_of (zRows_read_r N 5 _ hx5 _ hσ) (congr (congrArg (Rows_read N 5) rfl) rfl)) (fun r38 s38σ hr38 hs38 => ?_)
  dsimp only
  refine zr_bind (zr_of (zRows_read_r N 6 _ hx5 _ hs38) (congr (congrArg (Rows_read N 6) rfl) rfl)) (fun r52 s52σ hr52 hs52 => ?_)
  dsimp only
  refine zr_ite (zI_lt rfl (zl_65536) hr38 (by decide)) ?_ ?_
  · exact zr_of (zMachine_hasMember_b91_r N k23 k23' hk23 _ hx2 _ hx3 _ hx4 _ hx5 _ hr38 _ hr52 _ hs52) (congr (congr (congr (congr (congr (congr (congrArg (Machine_hasMember_b91 N k23') rfl) rfl) rfl) rfl) rfl) rfl) rfl)
  · exact zr_of (zMachine_hasMember_b64_r N k23 k23' hk23 _ hx2 _ hx3 _ hx4 _ hx5 _ hr38 _ hs52) (congr (congr (congr (congr (congr (congrArg (Machine_hasMember_b64 N k23') rfl) rfl) rfl) rfl) rfl) rfl)
def zMachine_hasMember_b23 (N : Nat) (k23 : Int → Int → Int → Int → z_S → Option (Int × z_S)) (x2 : Int) (x3 : Int) (x4 : Int) (x5 : Int) (σ : z_S) : Option (Int × z_S) := if x2 ≤ x5 then zMachine_hasMember_b137 N σ else zMachine_hasMember_b29 N k23 x2 x3 x4 x5 σ
theorem zMachine_hasMember_b23_r (N : Nat) (k23 : Int → Int → Int → Int → z_S → Option (Int × z_S)) (k23' : Int32 → Int32 → Int32 → Int32 → g_S → Option (Int32 × g_S)) (hk23 : ∀ (y0 : Int) (_ : zin y0) (y1 : Int) (_ : zin y1) (y2 : Int) (_ : zin y2) (y3 : Int) (_ : zin y3) (σ : z_S), zR σ → zrel (k23 y0 y1 y2 y3 σ) (k23' (zI y0) (zI y1) (zI y2) (zI y3) (zo σ))) (x2 : Int) (hx2 : zin x2) (x3 : Int) (hx3 : zin x3) (x4 : Int) (hx4 : zin x4) (x5 : Int) (hx5 : zin x5) (σ : z_S) (hσ : zR σ) : zrel (zMachine_hasMember_b23 N k23 x2 x3 x4 x5 σ) (Machine_hasMember_b23 N k23' (zI x2) (zI x3) (zI x4) (zI x5) (zo σ)) := by
  unfold zMachine_hasMember_b23 Machine_hasMember_b23
  refine zr_ite (zI_le rfl rfl hx2 hx5) ?_ ?_
  · exact zr_of (zMachine_hasMember_b137_r N  _ hσ) (congrArg (Machine_hasMember_b137 N) rfl)
  · exact zr_of (zMachine_hasMember_b29_r N k23 k23' hk23 _ hx2 _ hx3 _ hx4 _ hx5 _ hσ) (congr (congr (congr (congr (congrArg (Machine_hasMember_b29 N k23') rfl) rfl) rfl) rfl) rfl)
def zMachine_hasMember_l23 (N : Nat) : Nat → Int → Int → Int → Int → z_S → Option (Int × z_S)
  | 0 => fun _ _ _ _ _ => none
  | n + 1 => fun x2 x3 x4 x5 σ => zMachine_hasMember_b23 N (zMachine_hasMember_l23 N n) x2 x3 x4 x5 σ
theorem zMachine_hasMember_l23_r (N : Nat) (n : Nat) : ∀ (x2 : Int) (hx2 : zin x2) (x3 : Int) (hx3 : zin x3) (x4 : Int) (hx4 : zin x4) (x5 : Int) (hx5 : zin x5) (σ : z_S) (_ : zR σ), zrel (zMachine_hasMember_l23 N n x2 x3 x4 x5 σ) (Machine_hasMember_l23 N n (zI x2) (zI x3) (zI x4) (zI x5) (zo σ)) := by
  induction n with
  | zero => intro x2 hx2 x3 hx3 x4 hx4 x5 hx5 σ hσ r s h; cases h
  | succ n ih => intro x2 hx2 x3 hx3 x4 hx4 x5 hx5 σ hσ; exact zMachine_hasMember_b23_r N _ _ (fun x2 hx2 x3 hx3 x4 hx4 x5 hx5 σ hσ => ih x2 hx2 x3 hx3 x4 hx4 x5 hx5 σ hσ) x2 hx2 x3 hx3 x4 hx4 x5 hx5 σ hσ
def zMachine_hasMember_b18 (N : Nat) (x1 : Int) (x2 : Int) (x3 : Int) (s0 : Int) (σ : z_S) : Option (Int × z_S) := zMachine_hasMember_l23 N N x2 x3 s0 x1 σ
theorem zMachine_hasMember_b18_r (N : Nat) (x1 : Int) (hx1 : zin x1) (x2 : Int) (hx2 : zin x2) (x3 : Int) (hx3 : zin x3) (s0 : Int) (hs0 : zin s0) (σ : z_S) (hσ : zR σ) : zrel (zMachine_hasMember_b18 N x1 x2 x3 s0 σ) (Machine_hasMember_b18 N (zI x1) (zI x2) (zI x3) (zI s0) (zo σ)) := by
  unfold zMachine_hasMember_b18 Machine_hasMember_b18
  exact zr_of (zMachine_hasMember_l23_r N N _ hx2 _ hx3 _ hs0 _ hx1 _ hσ) (congr (congr (congr (congr (congrArg (Machine_hasMember_l23 N N) rfl) rfl) rfl) rfl) rfl)
def zMachine_hasMember_b17 (N : Nat) (x1 : Int) (x2 : Int) (x3 : Int) (σ : z_S) : Option (Int × z_S) := zMachine_hasMember_b18 N x1 x2 x3 x3 σ
theorem zMachine_hasMember_b17_r (N : Nat) (x1 : Int) (hx1 : zin x1) (x2 : Int) (hx2 : zin x2) (x3 : Int) (hx3 : zin x3) (σ : z_S) (hσ : zR σ) : zrel (zMachine_hasMember_b17 N x1 x2 x3 σ) (Machine_hasMember_b17 N (zI x1) (zI x2) (zI x3) (zo σ)) := by
  unfold zMachine_hasMember_b17 Machine_hasMember_b17
  exact zr_of (zMachine_hasMember_b18_r N _ hx1 _ hx2 _ hx3 _ hx3 _ hσ) (congr (congr (congr (congr (congrArg (Machine_hasMember_b18 N) rfl) rfl) rfl) rfl) rfl)
def zMachine_hasMember_b10 (N : Nat) (x1 : Int) (x2 : Int) (x3 : Int) (σ : z_S) : Option (Int × z_S) := (zUnits_twin N x3 σ).bind fun q11 => zMachine_hasMember_b18 N x1 x2 x3 q11.1 q11.2
theorem zMachine_hasMember_b10_r (N : Nat) (x1 : Int) (hx1 : zin x1) (x2 : Int) (hx2 : zin x2) (x3 : Int) (hx3 : zin x3) (σ : z_S) (hσ : zR σ) : zrel (zMachine_hasMember_b10 N x1 x2 x3 σ) (Machine_hasMember_b10 N (zI x1) (zI x2) (zI x3) (zo σ)) := by
  unfold zMachine_hasMember_b10 Machine_hasMember_b10
  refine zr_bind (zr_of (zUnits_twin_r N _ hx3 _ hσ) (congr (congrArg (Units_twin N) rfl) rfl)) (fun r11 s11σ hr11 hs11 => ?_)
  dsimp only
  exact zr_of (zMachine_hasMember_b18_r N _ hx1 _ hx2 _ hx3 _ hr11 _ hs11) (congr (congr (congr (congr (congrArg (Machine_hasMember_b18 N) rfl) rfl) rfl) rfl) rfl)
def zMachine_hasMember_b0 (N : Nat) (x1 : Int) (x2 : Int) (x3 : Int) (σ : z_S) : Option (Int × z_S) := if (σ.1 9) = 0 then zMachine_hasMember_b17 N x1 x2 x3 σ else zMachine_hasMember_b10 N x1 x2 x3 σ
theorem zMachine_hasMember_b0_r (N : Nat) (x1 : Int) (hx1 : zin x1) (x2 : Int) (hx2 : zin x2) (x3 : Int) (hx3 : zin x3) (σ : z_S) (hσ : zR σ) : zrel (zMachine_hasMember_b0 N x1 x2 x3 σ) (Machine_hasMember_b0 N (zI x1) (zI x2) (zI x3) (zo σ)) := by
  unfold zMachine_hasMember_b0 Machine_hasMember_b0
  refine zr_ite (zI_eq (zo_fld rfl 9) (zl_0) (hσ.1 9) (by decide)) ?_ ?_
  · exact zr_of (zMachine_hasMember_b17_r N _ hx1 _ hx2 _ hx3 _ hσ) (congr (congr (congr (congrArg (Machine_hasMember_b17 N) rfl) rfl) rfl) rfl)
  · exact zr_of (zMachine_hasMember_b10_r N _ hx1 _ hx2 _ hx3 _ hσ) (congr (congr (congr (congrArg (Machine_hasMember_b10 N) rfl) rfl) rfl) rfl)
def zMachine_hasMember (N : Nat) (x1 : Int) (x2 : Int) (x3 : Int) (σ : z_S) : Option (Int × z_S) := zMachine_hasMember_b0 N x1 x2 x3 σ
theorem zMachine_hasMember_r (N : Nat) (x1 : Int) (hx1 : zin x1) (x2 : Int) (hx2 : zin x2) (x3 : Int) (hx3 : zin x3) (σ : z_S) (hσ : zR σ) : zrel (zMachine_hasMember N x1 x2 x3 σ) (Machine_hasMember N (zI x1) (zI x2) (zI x3) (zo σ)) := by
  unfold zMachine_hasMember Machine_hasMember
  exact zr_of (zMachine_hasMember_b0_r N _ hx1 _ hx2 _ hx3 _ hσ) (congr (congr (congr (congrArg (Machine_hasMember_b0 N) rfl) rfl) rfl) rfl)
def zMachine_takesUnit_b60 (N : Nat) (x2 : Int) (x4 : Int) (σ : z_S) : Option (Int × z_S) := (zMachine_isSame N x4 x2 σ).bind fun q64 => if zB q64.1 then some (q64.1, q64.2) else none
theorem zMachine_takesUnit_b60_r (N : Nat) (x2 : Int) (hx2 : zin x2) (x4 : Int) (hx4 : zin x4) (σ : z_S) (hσ : zR σ) : zrel (zMachine_takesUnit_b60 N x2 x4 σ) (Machine_takesUnit_b60 N (zI x2) (zI x4) (zo σ)) := by
  unfold zMachine_takesUnit_b60 Machine_takesUnit_b60
  refine zr_bind (zr_of (zMachine_isSame_r N _ hx4 _ hx2 _ hσ) (congr (congr (congrArg (Machine_isSame N) rfl) rfl) rfl)) (fun r64 s64σ hr64 hs64 => ?_)
  dsimp only
  refine zr_gg (zg_B rfl) (fun g1 => ?_)
  exact zr_some rfl hr64 rfl hs64
def zMachine_takesUnit_b81 (N : Nat) (s0 : Int) (σ : z_S) : Option (Int × z_S) := if zB s0 then some (s0, σ) else none
theorem zMachine_takesUnit_b81_r (N : Nat) (s0 : Int) (hs0 : zin s0) (σ : z_S) (hσ : zR σ) : zrel (zMachine_takesUnit_b81 N s0 σ) (Machine_takesUnit_b81 N (zI s0) (zo σ)) := by
  unfold zMachine_takesUnit_b81 Machine_takesUnit_b81
  refine zr_gg (zg_B rfl) (fun g1 => ?_)
  exact zr_some rfl hs0 rfl hσ
def zMachine_takesUnit_b80 (N : Nat) (σ : z_S) : Option (Int × z_S) := zMachine_takesUnit_b81 N 0 σ
theorem zMachine_takesUnit_b80_r (N : Nat) (σ : z_S) (hσ : zR σ) : zrel (zMachine_takesUnit_b80 N σ) (Machine_takesUnit_b80 N (zo σ)) := by
  unfold zMachine_takesUnit_b80 Machine_takesUnit_b80
  exact zr_of (zMachine_takesUnit_b81_r N _ (by decide) _ hσ) (congr (congrArg (Machine_takesUnit_b81 N) (zl_0)) rfl)
def zMachine_takesUnit_b76 (N : Nat) (σ : z_S) : Option (Int × z_S) := zMachine_takesUnit_b81 N 1 σ
theorem zMachine_takesUnit_b76_r (N : Nat) (σ : z_S) (hσ : zR σ) : zrel (zMachine_takesUnit_b76 N σ) (Machine_takesUnit_b76 N (zo σ)) := by
  unfold zMachine_takesUnit_b76 Machine_takesUnit_b76
  exact zr_of (zMachine_takesUnit_b81_r N _ (by decide) _ hσ) (congr (congrArg (Machine_takesUnit_b81 N) (zl_1)) rfl)
def zMachine_takesUnit_b68 (N : Nat) (x4 : Int) (σ : z_S) : Option (Int × z_S) := (zUnits_isLineEnd N x4 σ).bind fun q70 => if q70.1 = 0 then zMachine_takesUnit_b76 N q70.2 else zMachine_takesUnit_b80 N q70.2
theorem zMachine_takesUnit_b68_r (N : Nat) (x4 : Int) (hx4 : zin x4) (σ : z_S) (hσ : zR σ) : zrel (zMachine_takesUnit_b68 N x4 σ) (Machine_takesUnit_b68 N (zI x4) (zo σ)) := by
  unfold zMachine_takesUnit_b68 Machine_takesUnit_b68
  refine zr_bind (zr_of (zUnits_isLineEnd_r N _ hx4 _ hσ) (congr (congrArg (Units_isLineEnd N) rfl) rfl)) (fun r70 s70σ hr70 hs70 => ?_)
  dsimp only
  refine zr_ite (zI_eq rfl (zl_0) hr70 (by decide)) ?_ ?_
  · exact zr_of (zMachine_takesUnit_b76_r N  _ hs70) (congrArg (Machine_takesUnit_b76 N) rfl)
  · exact zr_of (zMachine_takesUnit_b80_r N  _ hs70) (congrArg (Machine_takesUnit_b80 N) rfl)
def zMachine_takesUnit_b82 (N : Nat) (x2 : Int) (x4 : Int) (σ : z_S) : Option (Int × z_S) := (zUnits_inSet N x2 x4 σ).bind fun q85 => if zB q85.1 then some (q85.1, q85.2) else none
theorem zMachine_takesUnit_b82_r (N : Nat) (x2 : Int) (hx2 : zin x2) (x4 : Int) (hx4 : zin x4) (σ : z_S) (hσ : zR σ) : zrel (zMachine_takesUnit_b82 N x2 x4 σ) (Machine_takesUnit_b82 N (zI x2) (zI x4) (zo σ)) := by
  unfold zMachine_takesUnit_b82 Machine_takesUnit_b82
  refine zr_bind (zr_of (zUnits_inSet_r N _ hx2 _ hx4 _ hσ) (congr (congr (congrArg (Units_inSet N) rfl) rfl) rfl)) (fun r85 s85σ hr85 hs85 => ?_)
  dsimp only
  refine zr_gg (zg_B rfl) (fun g1 => ?_)
  exact zr_some rfl hr85 rfl hs85
def zMachine_takesUnit_b89 (N : Nat) (x2 : Int) (x3 : Int) (x4 : Int) (σ : z_S) : Option (Int × z_S) := (zRows_read N 4 x3 σ).bind fun q99 => (zMachine_hasMember N x2 q99.1 x4 q99.2).bind fun q104 => if zB q104.1 then some (q104.1, q104.2) else none
theorem zMachine_takesUnit_b89_r (N : Nat) (x2 : Int) (hx2 : zin x2) (x3 : Int) (hx3 : zin x3) (x4 : Int) (hx4 : zin x4) (σ : z_S) (hσ : zR σ) : zrel (zMachine_takesUnit_b89 N x2 x3 x4 σ) (Machine_takesUnit_b89 N (zI x2) (zI x3) (zI x4) (zo σ)) := by
  unfold zMachine_takesUnit_b89 Machine_takesUnit_b89
  refine zr_bind (zr_of (zRows_read_r N 4 _ hx3 _ hσ) (congr (congrArg (Rows_read N 4) rfl) rfl)) (fun r99 s99σ hr99 hs99 => ?_)
  dsimp only
  refine zr_bind (zr_of (zMachine_hasMember_r N _ hx2 _ hr99 _ hx4 _ hs99) (congr (congr (congr (congrArg (Machine_hasMember N) rfl) rfl) rfl) rfl)) (fun r104 s104σ hr104 hs104 => ?_)
  dsimp only
  refine zr_gg (zg_B rfl) (fun g1 => ?_)
  exact zr_some rfl hr104 rfl hs104
def zMachine_takesUnit_b134 (N : Nat) (s0 : Int) (σ : z_S) : Option (Int × z_S) := if zB s0 then some (s0, σ) else none
theorem zMachine_takesUnit_b134_r (N : Nat) (s0 : Int) (hs0 : zin s0) (σ : z_S) (hσ : zR σ) : zrel (zMachine_takesUnit_b134 N s0 σ) (Machine_takesUnit_b134 N (zI s0) (zo σ)) := by
  unfold zMachine_takesUnit_b134 Machine_takesUnit_b134
  refine zr_gg (zg_B rfl) (fun g1 => ?_)
  exact zr_some rfl hs0 rfl hσ
def zMachine_takesUnit_b133 (N : Nat) (σ : z_S) : Option (Int × z_S) := zMachine_takesUnit_b134 N 0 σ
theorem zMachine_takesUnit_b133_r (N : Nat) (σ : z_S) (hσ : zR σ) : zrel (zMachine_takesUnit_b133 N σ) (Machine_takesUnit_b133 N (zo σ)) := by
  unfold zMachine_takesUnit_b133 Machine_takesUnit_b133
  exact zr_of (zMachine_takesUnit_b134_r N _ (by decide) _ hσ) (congr (congrArg (Machine_takesUnit_b134 N) (zl_0)) rfl)
def zMachine_takesUnit_b129 (N : Nat) (σ : z_S) : Option (Int × z_S) := zMachine_takesUnit_b134 N 1 σ
theorem zMachine_takesUnit_b129_r (N : Nat) (σ : z_S) (hσ : zR σ) : zrel (zMachine_takesUnit_b129 N σ) (Machine_takesUnit_b129 N (zo σ)) := by
  unfold zMachine_takesUnit_b129 Machine_takesUnit_b129
  exact zr_of (zMachine_takesUnit_b134_r N _ (by decide) _ hσ) (congr (congrArg (Machine_takesUnit_b134 N) (zl_1)) rfl)
def zMachine_takesUnit_b108 (N : Nat) (x2 : Int) (x3 : Int) (x4 : Int) (σ : z_S) : Option (Int × z_S) := (zRows_read N 4 x3 σ).bind fun q118 => (zMachine_hasMember N x2 q118.1 x4 q118.2).bind fun q123 => if q123.1 = 0 then zMachine_takesUnit_b129 N q123.2 else zMachine_takesUnit_b133 N q123.2
theorem zMachine_takesUnit_b108_r (N : Nat) (x2 : Int) (hx2 : zin x2) (x3 : Int) (hx3 : zin x3) (x4 : Int) (hx4 : zin x4) (σ : z_S) (hσ : zR σ) : zrel (zMachine_takesUnit_b108 N x2 x3 x4 σ) (Machine_takesUnit_b108 N (zI x2) (zI x3) (zI x4) (zo σ)) := by
  unfold zMachine_takesUnit_b108 Machine_takesUnit_b108
  refine zr_bind (zr_of (zRows_read_r N 4 _ hx3 _ hσ) (congr (congrArg (Rows_read N 4) rfl) rfl)) (fun r118 s118σ hr118 hs118 => ?_)
  dsimp only
  refine zr_bind (zr_of (zMachine_hasMember_r N _ hx2 _ hr118 _ hx4 _ hs118) (congr (congr (congr (congrArg (Machine_hasMember N) rfl) rfl) rfl) rfl)) (fun r123 s123σ hr123 hs123 => ?_)
  dsimp only
  refine zr_ite (zI_eq rfl (zl_0) hr123 (by decide)) ?_ ?_
  · exact zr_of (zMachine_takesUnit_b129_r N  _ hs123) (congrArg (Machine_takesUnit_b129 N) rfl)
  · exact zr_of (zMachine_takesUnit_b133_r N  _ hs123) (congrArg (Machine_takesUnit_b133 N) rfl)
def zMachine_takesUnit_b17 (N : Nat) (x1 : Int) (x2 : Int) (x3 : Int) (x4 : Int) (σ : z_S) : Option (Int × z_S) := if x1 = 1 then if zin ((σ.1 24) + 1) then zMachine_takesUnit_b60 N x2 x4 (zF σ 24 ((σ.1 24) + 1)) else none else if x1 = 2 then if zin ((σ.1 24) + 1) then zMachine_takesUnit_b68 N x4 (zF σ 24 ((σ.1 24) + 1)) else none else if x1 = 3 then if zin ((σ.1 24) + 1) then zMachine_takesUnit_b82 N x2 x4 (zF σ 24 ((σ.1 24) + 1)) else none else if x1 = 4 then if zin ((σ.1 24) + 1) then zMachine_takesUnit_b89 N x2 x3 x4 (zF σ 24 ((σ.1 24) + 1)) else none else if zin ((σ.1 24) + 1) then zMachine_takesUnit_b108 N x2 x3 x4 (zF σ 24 ((σ.1 24) + 1)) else none
theorem zMachine_takesUnit_b17_r (N : Nat) (x1 : Int) (hx1 : zin x1) (x2 : Int) (hx2 : zin x2) (x3 : Int) (hx3 : zin x3) (x4 : Int) (hx4 : zin x4) (σ : z_S) (hσ : zR σ) : zrel (zMachine_takesUnit_b17 N x1 x2 x3 x4 σ) (Machine_takesUnit_b17 N (zI x1) (zI x2) (zI x3) (zI x4) (zo σ)) := by
  unfold zMachine_takesUnit_b17 Machine_takesUnit_b17
  refine zr_ite (zI_eq rfl (zl_1) hx1 (by decide)) ?_ ?_
  · refine zr_g (fun g1 => ?_)
    exact zr_of (zMachine_takesUnit_b60_r N _ hx2 _ hx4 _ (zR_F (k := 24) hσ g1)) (congr (congr (congrArg (Machine_takesUnit_b60 N) rfl) rfl) (zo_F (k := 24) rfl (zI_add (zo_fld rfl 24) (zl_1))))
  · refine zr_ite (zI_eq rfl (zl_2) hx1 (by decide)) ?_ ?_
    · refine zr_g (fun g2 => ?_)
      exact zr_of (zMachine_takesUnit_b68_r N _ hx4 _ (zR_F (k := 24) hσ g2)) (congr (congrArg (Machine_takesUnit_b68 N) rfl) (zo_F (k := 24) rfl (zI_add (zo_fld rfl 24) (zl_1))))
    · refine zr_ite (zI_eq rfl (zl_3) hx1 (by decide)) ?_ ?_
      · refine zr_g (fun g3 => ?_)
        exact zr_of (zMachine_takesUnit_b82_r N _ hx2 _ hx4 _ (zR_F (k := 24) hσ g3)) (congr (congr (congrArg (Machine_takesUnit_b82 N) rfl) rfl) (zo_F (k := 24) rfl (zI_add (zo_fld rfl 24) (zl_1))))
      · refine zr_ite (zI_eq rfl (zl_4) hx1 (by decide)) ?_ ?_
        · refine zr_g (fun g4 => ?_)
          exact zr_of (zMachine_takesUnit_b89_r N _ hx2 _ hx3 _ hx4 _ (zR_F (k := 24) hσ g4)) (congr (congr (congr (congrArg (Machine_takesUnit_b89 N) rfl) rfl) rfl) (zo_F (k := 24) rfl (zI_add (zo_fld rfl 24) (zl_1))))
        · refine zr_g (fun g5 => ?_)
          exact zr_of (zMachine_takesUnit_b108_r N _ hx2 _ hx3 _ hx4 _ (zR_F (k := 24) hσ g5)) (congr (congr (congr (congrArg (Machine_takesUnit_b108 N) rfl) rfl) rfl) (zo_F (k := 24) rfl (zI_add (zo_fld rfl 24) (zl_1))))
def zMachine_takesUnit_b15 (N : Nat) (σ : z_S) : Option (Int × z_S) := some (0, σ)
theorem zMachine_takesUnit_b15_r (N : Nat) (σ : z_S) (hσ : zR σ) : zrel (zMachine_takesUnit_b15 N σ) (Machine_takesUnit_b15 N (zo σ)) := by
  unfold zMachine_takesUnit_b15 Machine_takesUnit_b15
  exact zr_some (zl_0) (by decide) rfl hσ
def zMachine_takesUnit_b0 (N : Nat) (x1 : Int) (x2 : Int) (x3 : Int) (σ : z_S) : Option (Int × z_S) := (zMachine_unitAt N (σ.1 24) σ).bind fun q5 => if (0 : Int) ≤ q5.1 then zMachine_takesUnit_b17 N x1 x2 x3 q5.1 q5.2 else zMachine_takesUnit_b15 N q5.2
theorem zMachine_takesUnit_b0_r (N : Nat) (x1 : Int) (hx1 : zin x1) (x2 : Int) (hx2 : zin x2) (x3 : Int) (hx3 : zin x3) (σ : z_S) (hσ : zR σ) : zrel (zMachine_takesUnit_b0 N x1 x2 x3 σ) (Machine_takesUnit_b0 N (zI x1) (zI x2) (zI x3) (zo σ)) := by
  unfold zMachine_takesUnit_b0 Machine_takesUnit_b0
  refine zr_bind (zr_of (zMachine_unitAt_r N _ (hσ.1 24) _ hσ) (congr (congrArg (Machine_unitAt N) (zo_fld rfl 24)) rfl)) (fun r5 s5σ hr5 hs5 => ?_)
  dsimp only
  refine zr_ite (zI_le (zl_0) rfl (by decide) hr5) ?_ ?_
  · exact zr_of (zMachine_takesUnit_b17_r N _ hx1 _ hx2 _ hx3 _ hr5 _ hs5) (congr (congr (congr (congr (congrArg (Machine_takesUnit_b17 N) rfl) rfl) rfl) rfl) rfl)
  · exact zr_of (zMachine_takesUnit_b15_r N  _ hs5) (congrArg (Machine_takesUnit_b15 N) rfl)
def zMachine_takesUnit (N : Nat) (x1 : Int) (x2 : Int) (x3 : Int) (σ : z_S) : Option (Int × z_S) := zMachine_takesUnit_b0 N x1 x2 x3 σ
theorem zMachine_takesUnit_r (N : Nat) (x1 : Int) (hx1 : zin x1) (x2 : Int) (hx2 : zin x2) (x3 : Int) (hx3 : zin x3) (σ : z_S) (hσ : zR σ) : zrel (zMachine_takesUnit N x1 x2 x3 σ) (Machine_takesUnit N (zI x1) (zI x2) (zI x3) (zo σ)) := by
  unfold zMachine_takesUnit Machine_takesUnit
  exact zr_of (zMachine_takesUnit_b0_r N _ hx1 _ hx2 _ hx3 _ hσ) (congr (congr (congr (congrArg (Machine_takesUnit_b0 N) rfl) rfl) rfl) rfl)
def zMachine_takesGroupAgain_b89 (N : Nat) (x3 : Int) (σ : z_S) : Option (Int × z_S) := if zin ((σ.1 24) + x3) then some (1, (zF σ 24 ((σ.1 24) + x3))) else none
theorem zMachine_takesGroupAgain_b89_r (N : Nat) (x3 : Int) (hx3 : zin x3) (σ : z_S) (hσ : zR σ) : zrel (zMachine_takesGroupAgain_b89 N x3 σ) (Machine_takesGroupAgain_b89 N (zI x3) (zo σ)) := by
  unfold zMachine_takesGroupAgain_b89 Machine_takesGroupAgain_b89
  refine zr_g (fun g1 => ?_)
  exact zr_some (zl_1) (by decide) (zo_F (k := 24) rfl (zI_add (zo_fld rfl 24) rfl)) (zR_F (k := 24) hσ g1)
def zMachine_takesGroupAgain_b83 (N : Nat) (k49 : Int → Int → Int → z_S → Option (Int × z_S)) (x2 : Int) (x3 : Int) (x4 : Int) (σ : z_S) : Option (Int × z_S) := if zin (x4 + 1) then k49 x2 x3 (x4 + 1) σ else none
theorem zMachine_takesGroupAgain_b83_r (N : Nat) (k49 : Int → Int → Int → z_S → Option (Int × z_S)) (k49' : Int32 → Int32 → Int32 → g_S → Option (Int32 × g_S)) (hk49 : ∀ (y0 : Int) (_ : zin y0) (y1 : Int) (_ : zin y1) (y2 : Int) (_ : zin y2) (σ : z_S), zR σ → zrel (k49 y0 y1 y2 σ) (k49' (zI y0) (zI y1) (zI y2) (zo σ))) (x2 : Int) (hx2 : zin x2) (x3 : Int) (hx3 : zin x3) (x4 : Int) (hx4 : zin x4) (σ : z_S) (hσ : zR σ) : zrel (zMachine_takesGroupAgain_b83 N k49 x2 x3 x4 σ) (Machine_takesGroupAgain_b83 N k49' (zI x2) (zI x3) (zI x4) (zo σ)) := by
  unfold zMachine_takesGroupAgain_b83 Machine_takesGroupAgain_b83
  refine zr_g (fun g1 => ?_)
  exact zr_of (hk49 _ hx2 _ hx3 _ g1 _ hσ) (congr (congr (congr (congrArg (k49') rfl) rfl) (zI_add rfl (zl_1))) rfl)
def zMachine_takesGroupAgain_b81 (N : Nat) (σ : z_S) : Option (Int × z_S) := some (0, σ)
theorem zMachine_takesGroupAgain_b81_r (N : Nat) (σ : z_S) (hσ : zR σ) : zrel (zMachine_takesGroupAgain_b81 N σ) (Machine_takesGroupAgain_b81 N (zo σ)) := by
  unfold zMachine_takesGroupAgain_b81 Machine_takesGroupAgain_b81
  exact zr_some (zl_0) (by decide) rfl hσ
def zMachine_takesGroupAgain_b55 (N : Nat) (k49 : Int → Int → Int → z_S → Option (Int × z_S)) (x2 : Int) (x3 : Int) (x4 : Int) (σ : z_S) : Option (Int × z_S) := if zin (x2 + x4) then (zMachine_unitAt N (x2 + x4) σ).bind fun q61 => if zin ((q61.2.1 24) + x4) then (zMachine_unitAt N ((q61.2.1 24) + x4) q61.2).bind fun q72 => (zMachine_isSame N q61.1 q72.1 q72.2).bind fun q75 => if q75.1 = 0 then zMachine_takesGroupAgain_b81 N q75.2 else zMachine_takesGroupAgain_b83 N k49 x2 x3 x4 q75.2 else none else none
theorem zMachine_takesGroupAgain_b55_r (N : Nat) (k49 : Int → Int → Int → z_S → Option (Int × z_S)) (k49' : Int32 → Int32 → Int32 → g_S → Option (Int32 × g_S)) (hk49 : ∀ (y0 : Int) (_ : zin y0) (y1 : Int) (_ : zin y1) (y2 : Int) (_ : zin y2) (σ : z_S), zR σ → zrel (k49 y0 y1 y2 σ) (k49' (zI y0) (zI y1) (zI y2) (zo σ))) (x2 : Int) (hx2 : zin x2) (x3 : Int) (hx3 : zin x3) (x4 : Int) (hx4 : zin x4) (σ : z_S) (hσ : zR σ) : zrel (zMachine_takesGroupAgain_b55 N k49 x2 x3 x4 σ) (Machine_takesGroupAgain_b55 N k49' (zI x2) (zI x3) (zI x4) (zo σ)) := by
  unfold zMachine_takesGroupAgain_b55 Machine_takesGroupAgain_b55
  refine zr_g (fun g1 => ?_)
  refine zr_bind (zr_of (zMachine_unitAt_r N _ g1 _ hσ) (congr (congrArg (Machine_unitAt N) (zI_add rfl rfl)) rfl)) (fun r61 s61σ hr61 hs61 => ?_)
  dsimp only
  refine zr_g (fun g2 => ?_)
  refine zr_bind (zr_of (zMachine_unitAt_r N _ g2 _ hs61) (congr (congrArg (Machine_unitAt N) (zI_add (zo_fld rfl 24) rfl)) rfl)) (fun r72 s72σ hr72 hs72 => ?_)
  dsimp only
  refine zr_bind (zr_of (zMachine_isSame_r N _ hr61 _ hr72 _ hs72) (congr (congr (congrArg (Machine_isSame N) rfl) rfl) rfl)) (fun r75 s75σ hr75 hs75 => ?_)
  dsimp only
  refine zr_ite (zI_eq rfl (zl_0) hr75 (by decide)) ?_ ?_
  · exact zr_of (zMachine_takesGroupAgain_b81_r N  _ hs75) (congrArg (Machine_takesGroupAgain_b81 N) rfl)
  · exact zr_of (zMachine_takesGroupAgain_b83_r N k49 k49' hk49 _ hx2 _ hx3 _ hx4 _ hs75) (congr (congr (congr (congrArg (Machine_takesGroupAgain_b83 N k49') rfl) rfl) rfl) rfl)
def zMachine_takesGroupAgain_b49 (N : Nat) (k49 : Int → Int → Int → z_S → Option (Int × z_S)) (x2 : Int) (x3 : Int) (x4 : Int) (σ : z_S) : Option (Int × z_S) := if x3 ≤ x4 then zMachine_takesGroupAgain_b89 N x3 σ else zMachine_takesGroupAgain_b55 N k49 x2 x3 x4 σ
theorem zMachine_takesGroupAgain_b49_r (N : Nat) (k49 : Int → Int → Int → z_S → Option (Int × z_S)) (k49' : Int32 → Int32 → Int32 → g_S → Option (Int32 × g_S)) (hk49 : ∀ (y0 : Int) (_ : zin y0) (y1 : Int) (_ : zin y1) (y2 : Int) (_ : zin y2) (σ : z_S), zR σ → zrel (k49 y0 y1 y2 σ) (k49' (zI y0) (zI y1) (zI y2) (zo σ))) (x2 : Int) (hx2 : zin x2) (x3 : Int) (hx3 : zin x3) (x4 : Int) (hx4 : zin x4) (σ : z_S) (hσ : zR σ) : zrel (zMachine_takesGroupAgain_b49 N k49 x2 x3 x4 σ) (Machine_takesGroupAgain_b49 N k49' (zI x2) (zI x3) (zI x4) (zo σ)) := by
  unfold zMachine_takesGroupAgain_b49 Machine_takesGroupAgain_b49
  refine zr_ite (zI_le rfl rfl hx3 hx4) ?_ ?_
  · exact zr_of (zMachine_takesGroupAgain_b89_r N _ hx3 _ hσ) (congr (congrArg (Machine_takesGroupAgain_b89 N) rfl) rfl)
  · exact zr_of (zMachine_takesGroupAgain_b55_r N k49 k49' hk49 _ hx2 _ hx3 _ hx4 _ hσ) (congr (congr (congr (congrArg (Machine_takesGroupAgain_b55 N k49') rfl) rfl) rfl) rfl)
def zMachine_takesGroupAgain_l49 (N : Nat) : Nat → Int → Int → Int → z_S → Option (Int × z_S)
  | 0 => fun _ _ _ _ => none
  | n + 1 => fun x2 x3 x4 σ => zMachine_takesGroupAgain_b49 N (zMachine_takesGroupAgain_l49 N n) x2 x3 x4 σ
theorem zMachine_takesGroupAgain_l49_r (N : Nat) (n : Nat) : ∀ (x2 : Int) (hx2 : zin x2) (x3 : Int) (hx3 : zin x3) (x4 : Int) (hx4 : zin x4) (σ : z_S) (_ : zR σ), zrel (zMachine_takesGroupAgain_l49 N n x2 x3 x4 σ) (Machine_takesGroupAgain_l49 N n (zI x2) (zI x3) (zI x4) (zo σ)) := by
  induction n with
  | zero => intro x2 hx2 x3 hx3 x4 hx4 σ hσ r s h; cases h
  | succ n ih => intro x2 hx2 x3 hx3 x4 hx4 σ hσ; exact zMachine_takesGroupAgain_b49_r N _ _ (fun x2 hx2 x3 hx3 x4 hx4 σ hσ => ih x2 hx2 x3 hx3 x4 hx4 σ hσ) x2 hx2 x3 hx3 x4 hx4 σ hσ
def zMachine_takesGroupAgain_b46 (N : Nat) (x2 : Int) (x3 : Int) (σ : z_S) : Option (Int × z_S) := zMachine_takesGroupAgain_l49 N N x2 x3 0 σ
theorem zMachine_takesGroupAgain_b46_r (N : Nat) (x2 : Int) (hx2 : zin x2) (x3 : Int) (hx3 : zin x3) (σ : z_S) (hσ : zR σ) : zrel (zMachine_takesGroupAgain_b46 N x2 x3 σ) (Machine_takesGroupAgain_b46 N (zI x2) (zI x3) (zo σ)) := by
  unfold zMachine_takesGroupAgain_b46 Machine_takesGroupAgain_b46
  exact zr_of (zMachine_takesGroupAgain_l49_r N N _ hx2 _ hx3 _ (by decide) _ hσ) (congr (congr (congr (congrArg (Machine_takesGroupAgain_l49 N N) rfl) rfl) (zl_0)) rfl)
def zMachine_takesGroupAgain_b44 (N : Nat) (σ : z_S) : Option (Int × z_S) := some (0, σ)
theorem zMachine_takesGroupAgain_b44_r (N : Nat) (σ : z_S) (hσ : zR σ) : zrel (zMachine_takesGroupAgain_b44 N σ) (Machine_takesGroupAgain_b44 N (zo σ)) := by
  unfold zMachine_takesGroupAgain_b44 Machine_takesGroupAgain_b44
  exact zr_some (zl_0) (by decide) rfl hσ
def zMachine_takesGroupAgain_b17 (N : Nat) (x1 : Int) (x2 : Int) (σ : z_S) : Option (Int × z_S) := if zin (21 + x1) then (zRows_read N 18 (21 + x1) σ).bind fun q25 => if zin (q25.1 - x2) then if zin ((q25.2.1 26) - (q25.2.1 24)) then if (q25.1 - x2) ≤ ((q25.2.1 26) - (q25.2.1 24)) then zMachine_takesGroupAgain_b46 N x2 (q25.1 - x2) q25.2 else zMachine_takesGroupAgain_b44 N q25.2 else none else none else none
theorem zMachine_takesGroupAgain_b17_r (N : Nat) (x1 : Int) (hx1 : zin x1) (x2 : Int) (hx2 : zin x2) (σ : z_S) (hσ : zR σ) : zrel (zMachine_takesGroupAgain_b17 N x1 x2 σ) (Machine_takesGroupAgain_b17 N (zI x1) (zI x2) (zo σ)) := by
  unfold zMachine_takesGroupAgain_b17 Machine_takesGroupAgain_b17
  refine zr_g (fun g1 => ?_)
  refine zr_bind (zr_of (zRows_read_r N 18 _ g1 _ hσ) (congr (congrArg (Rows_read N 18) (zI_add (zl_21) rfl)) rfl)) (fun r25 s25σ hr25 hs25 => ?_)
  dsimp only
  refine zr_g (fun g2 => ?_)
  refine zr_g (fun g3 => ?_)
  refine zr_ite (zI_le (zI_sub rfl rfl) (zI_sub (zo_fld rfl 26) (zo_fld rfl 24)) g2 g3) ?_ ?_
  · exact zr_of (zMachine_takesGroupAgain_b46_r N _ hx2 _ g2 _ hs25) (congr (congr (congrArg (Machine_takesGroupAgain_b46 N) rfl) (zI_sub rfl rfl)) rfl)
  · exact zr_of (zMachine_takesGroupAgain_b44_r N  _ hs25) (congrArg (Machine_takesGroupAgain_b44 N) rfl)
def zMachine_takesGroupAgain_b15 (N : Nat) (σ : z_S) : Option (Int × z_S) := some (1, σ)
theorem zMachine_takesGroupAgain_b15_r (N : Nat) (σ : z_S) (hσ : zR σ) : zrel (zMachine_takesGroupAgain_b15 N σ) (Machine_takesGroupAgain_b15 N (zo σ)) := by
  unfold zMachine_takesGroupAgain_b15 Machine_takesGroupAgain_b15
  exact zr_some (zl_1) (by decide) rfl hσ
def zMachine_takesGroupAgain_b0 (N : Nat) (x1 : Int) (σ : z_S) : Option (Int × z_S) := if zin (0 + x1) then (zRows_read N 18 (0 + x1) σ).bind fun q7 => if (0 : Int) ≤ q7.1 then zMachine_takesGroupAgain_b17 N x1 q7.1 q7.2 else zMachine_takesGroupAgain_b15 N q7.2 else none
theorem zMachine_takesGroupAgain_b0_r (N : Nat) (x1 : Int) (hx1 : zin x1) (σ : z_S) (hσ : zR σ) : zrel (zMachine_takesGroupAgain_b0 N x1 σ) (Machine_takesGroupAgain_b0 N (zI x1) (zo σ)) := by
  unfold zMachine_takesGroupAgain_b0 Machine_takesGroupAgain_b0
  refine zr_g (fun g1 => ?_)
  refine zr_bind (zr_of (zRows_read_r N 18 _ g1 _ hσ) (congr (congrArg (Rows_read N 18) (zI_add (zl_0) rfl)) rfl)) (fun r7 s7σ hr7 hs7 => ?_)
  dsimp only
  refine zr_ite (zI_le (zl_0) rfl (by decide) hr7) ?_ ?_
  · exact zr_of (zMachine_takesGroupAgain_b17_r N _ hx1 _ hr7 _ hs7) (congr (congr (congrArg (Machine_takesGroupAgain_b17 N) rfl) rfl) rfl)
  · exact zr_of (zMachine_takesGroupAgain_b15_r N  _ hs7) (congrArg (Machine_takesGroupAgain_b15 N) rfl)
def zMachine_takesGroupAgain (N : Nat) (x1 : Int) (σ : z_S) : Option (Int × z_S) := zMachine_takesGroupAgain_b0 N x1 σ
theorem zMachine_takesGroupAgain_r (N : Nat) (x1 : Int) (hx1 : zin x1) (σ : z_S) (hσ : zR σ) : zrel (zMachine_takesGroupAgain N x1 σ) (Machine_takesGroupAgain N (zI x1) (zo σ)) := by
  unfold zMachine_takesGroupAgain Machine_takesGroupAgain
  exact zr_of (zMachine_takesGroupAgain_b0_r N _ hx1 _ hσ) (congr (congrArg (Machine_takesGroupAgain_b0 N) rfl) rfl)
def zMachine_passes_b70 (N : Nat) (s0 : Int) (σ : z_S) : Option (Int × z_S) := if zB s0 then some (s0, σ) else none
theorem zMachine_passes_b70_r (N : Nat) (s0 : Int) (hs0 : zin s0) (σ : z_S) (hσ : zR σ) : zrel (zMachine_passes_b70 N s0 σ) (Machine_passes_b70 N (zI s0) (zo σ)) := by
  unfold zMachine_passes_b70 Machine_passes_b70
  refine zr_gg (zg_B rfl) (fun g1 => ?_)
  exact zr_some rfl hs0 rfl hσ
def zMachine_passes_b65 (N : Nat) (σ : z_S) : Option (Int × z_S) := zMachine_passes_b70 N 1 σ
theorem zMachine_passes_b65_r (N : Nat) (σ : z_S) (hσ : zR σ) : zrel (zMachine_passes_b65 N σ) (Machine_passes_b65 N (zo σ)) := by
  unfold zMachine_passes_b65 Machine_passes_b65
  exact zr_of (zMachine_passes_b70_r N _ (by decide) _ hσ) (congr (congrArg (Machine_passes_b70 N) (zl_1)) rfl)
def zMachine_passes_b69 (N : Nat) (σ : z_S) : Option (Int × z_S) := zMachine_passes_b70 N 0 σ
theorem zMachine_passes_b69_r (N : Nat) (σ : z_S) (hσ : zR σ) : zrel (zMachine_passes_b69 N σ) (Machine_passes_b69 N (zo σ)) := by
  unfold zMachine_passes_b69 Machine_passes_b69
  exact zr_of (zMachine_passes_b70_r N _ (by decide) _ hσ) (congr (congrArg (Machine_passes_b70 N) (zl_0)) rfl)
def zMachine_passes_b49 (N : Nat) (σ : z_S) : Option (Int × z_S) := if zin ((σ.1 24) - 1) then (zMachine_unitAt N ((σ.1 24) - 1) σ).bind fun q56 => (zUnits_isLineEnd N q56.1 q56.2).bind fun q59 => if q59.1 = 0 then zMachine_passes_b69 N q59.2 else zMachine_passes_b65 N q59.2 else none
theorem zMachine_passes_b49_r (N : Nat) (σ : z_S) (hσ : zR σ) : zrel (zMachine_passes_b49 N σ) (Machine_passes_b49 N (zo σ)) := by
  unfold zMachine_passes_b49 Machine_passes_b49
  refine zr_g (fun g1 => ?_)
  refine zr_bind (zr_of (zMachine_unitAt_r N _ g1 _ hσ) (congr (congrArg (Machine_unitAt N) (zI_sub (zo_fld rfl 24) (zl_1))) rfl)) (fun r56 s56σ hr56 hs56 => ?_)
  dsimp only
  refine zr_bind (zr_of (zUnits_isLineEnd_r N _ hr56 _ hs56) (congr (congrArg (Units_isLineEnd N) rfl) rfl)) (fun r59 s59σ hr59 hs59 => ?_)
  dsimp only
  refine zr_ite (zI_eq rfl (zl_0) hr59 (by decide)) ?_ ?_
  · exact zr_of (zMachine_passes_b69_r N  _ hs59) (congrArg (Machine_passes_b69 N) rfl)
  · exact zr_of (zMachine_passes_b65_r N  _ hs59) (congrArg (Machine_passes_b65 N) rfl)
def zMachine_passes_b39 (N : Nat) (σ : z_S) : Option (Int × z_S) := if (σ.1 10) = 0 then zMachine_passes_b69 N σ else zMachine_passes_b49 N σ
theorem zMachine_passes_b39_r (N : Nat) (σ : z_S) (hσ : zR σ) : zrel (zMachine_passes_b39 N σ) (Machine_passes_b39 N (zo σ)) := by
  unfold zMachine_passes_b39 Machine_passes_b39
  refine zr_ite (zI_eq (zo_fld rfl 10) (zl_0) (hσ.1 10) (by decide)) ?_ ?_
  · exact zr_of (zMachine_passes_b69_r N  _ hσ) (congrArg (Machine_passes_b69 N) rfl)
  · exact zr_of (zMachine_passes_b49_r N  _ hσ) (congrArg (Machine_passes_b49 N) rfl)
def zMachine_passes_b32 (N : Nat) (σ : z_S) : Option (Int × z_S) := if (σ.1 24) = 0 then zMachine_passes_b65 N σ else zMachine_passes_b39 N σ
theorem zMachine_passes_b32_r (N : Nat) (σ : z_S) (hσ : zR σ) : zrel (zMachine_passes_b32 N σ) (Machine_passes_b32 N (zo σ)) := by
  unfold zMachine_passes_b32 Machine_passes_b32
  refine zr_ite (zI_eq (zo_fld rfl 24) (zl_0) (hσ.1 24) (by decide)) ?_ ?_
  · exact zr_of (zMachine_passes_b65_r N  _ hσ) (congrArg (Machine_passes_b65 N) rfl)
  · exact zr_of (zMachine_passes_b39_r N  _ hσ) (congrArg (Machine_passes_b39 N) rfl)
def zMachine_passes_b111 (N : Nat) (s0 : Int) (σ : z_S) : Option (Int × z_S) := if zB s0 then some (s0, σ) else none
theorem zMachine_passes_b111_r (N : Nat) (s0 : Int) (hs0 : zin s0) (σ : z_S) (hσ : zR σ) : zrel (zMachine_passes_b111 N s0 σ) (Machine_passes_b111 N (zI s0) (zo σ)) := by
  unfold zMachine_passes_b111 Machine_passes_b111
  refine zr_gg (zg_B rfl) (fun g1 => ?_)
  exact zr_some rfl hs0 rfl hσ
def zMachine_passes_b106 (N : Nat) (σ : z_S) : Option (Int × z_S) := zMachine_passes_b111 N 1 σ
theorem zMachine_passes_b106_r (N : Nat) (σ : z_S) (hσ : zR σ) : zrel (zMachine_passes_b106 N σ) (Machine_passes_b106 N (zo σ)) := by
  unfold zMachine_passes_b106 Machine_passes_b106
  exact zr_of (zMachine_passes_b111_r N _ (by decide) _ hσ) (congr (congrArg (Machine_passes_b111 N) (zl_1)) rfl)
def zMachine_passes_b110 (N : Nat) (σ : z_S) : Option (Int × z_S) := zMachine_passes_b111 N 0 σ
theorem zMachine_passes_b110_r (N : Nat) (σ : z_S) (hσ : zR σ) : zrel (zMachine_passes_b110 N σ) (Machine_passes_b110 N (zo σ)) := by
  unfold zMachine_passes_b110 Machine_passes_b110
  exact zr_of (zMachine_passes_b111_r N _ (by decide) _ hσ) (congr (congrArg (Machine_passes_b111 N) (zl_0)) rfl)
def zMachine_passes_b92 (N : Nat) (σ : z_S) : Option (Int × z_S) := (zMachine_unitAt N (σ.1 24) σ).bind fun q97 => (zUnits_isLineEnd N q97.1 q97.2).bind fun q100 => if q100.1 = 0 then zMachine_passes_b110 N q100.2 else zMachine_passes_b106 N q100.2
theorem zMachine_passes_b92_r (N : Nat) (σ : z_S) (hσ : zR σ) : zrel (zMachine_passes_b92 N σ) (Machine_passes_b92 N (zo σ)) := by
  unfold zMachine_passes_b92 Machine_passes_b92
  refine zr_bind (zr_of (zMachine_unitAt_r N _ (hσ.1 24) _ hσ) (congr (congrArg (Machine_unitAt N) (zo_fld rfl 24)) rfl)) (fun r97 s97σ hr97 hs97 => ?_)
  dsimp only
  refine zr_bind (zr_of (zUnits_isLineEnd_r N _ hr97 _ hs97) (congr (congrArg (Units_isLineEnd N) rfl) rfl)) (fun r100 s100σ hr100 hs100 => ?_)
  dsimp only
  refine zr_ite (zI_eq rfl (zl_0) hr100 (by decide)) ?_ ?_
  · exact zr_of (zMachine_passes_b110_r N  _ hs100) (congrArg (Machine_passes_b110 N) rfl)
  · exact zr_of (zMachine_passes_b106_r N  _ hs100) (congrArg (Machine_passes_b106 N) rfl)
def zMachine_passes_b82 (N : Nat) (σ : z_S) : Option (Int × z_S) := if (σ.1 10) = 0 then zMachine_passes_b110 N σ else zMachine_passes_b92 N σ
theorem zMachine_passes_b82_r (N : Nat) (σ : z_S) (hσ : zR σ) : zrel (zMachine_passes_b82 N σ) (Machine_passes_b82 N (zo σ)) := by
  unfold zMachine_passes_b82 Machine_passes_b82
  refine zr_ite (zI_eq (zo_fld rfl 10) (zl_0) (hσ.1 10) (by decide)) ?_ ?_
  · exact zr_of (zMachine_passes_b110_r N  _ hσ) (congrArg (Machine_passes_b110 N) rfl)
  · exact zr_of (zMachine_passes_b92_r N  _ hσ) (congrArg (Machine_passes_b92 N) rfl)
def zMachine_passes_b71 (N : Nat) (σ : z_S) : Option (Int × z_S) := if (σ.1 24) = (σ.1 26) then zMachine_passes_b106 N σ else zMachine_passes_b82 N σ
theorem zMachine_passes_b71_r (N : Nat) (σ : z_S) (hσ : zR σ) : zrel (zMachine_passes_b71 N σ) (Machine_passes_b71 N (zo σ)) := by
  unfold zMachine_passes_b71 Machine_passes_b71
  refine zr_ite (zI_eq (zo_fld rfl 24) (zo_fld rfl 26) (hσ.1 24) (hσ.1 26)) ?_ ?_
  · exact zr_of (zMachine_passes_b106_r N  _ hσ) (congrArg (Machine_passes_b106 N) rfl)
  · exact zr_of (zMachine_passes_b82_r N  _ hσ) (congrArg (Machine_passes_b82 N) rfl)
def zMachine_passes_b144 (N : Nat) (s0 : Int) (σ : z_S) : Option (Int × z_S) := if zB s0 then some (s0, σ) else none
theorem zMachine_passes_b144_r (N : Nat) (s0 : Int) (hs0 : zin s0) (σ : z_S) (hσ : zR σ) : zrel (zMachine_passes_b144 N s0 σ) (Machine_passes_b144 N (zI s0) (zo σ)) := by
  unfold zMachine_passes_b144 Machine_passes_b144
  refine zr_gg (zg_B rfl) (fun g1 => ?_)
  exact zr_some rfl hs0 rfl hσ
def zMachine_passes_b143 (N : Nat) (σ : z_S) : Option (Int × z_S) := zMachine_passes_b144 N 0 σ
theorem zMachine_passes_b143_r (N : Nat) (σ : z_S) (hσ : zR σ) : zrel (zMachine_passes_b143 N σ) (Machine_passes_b143 N (zo σ)) := by
  unfold zMachine_passes_b143 Machine_passes_b143
  exact zr_of (zMachine_passes_b144_r N _ (by decide) _ hσ) (congr (congrArg (Machine_passes_b144 N) (zl_0)) rfl)
def zMachine_passes_b139 (N : Nat) (σ : z_S) : Option (Int × z_S) := zMachine_passes_b144 N 1 σ
theorem zMachine_passes_b139_r (N : Nat) (σ : z_S) (hσ : zR σ) : zrel (zMachine_passes_b139 N σ) (Machine_passes_b139 N (zo σ)) := by
  unfold zMachine_passes_b139 Machine_passes_b139
  exact zr_of (zMachine_passes_b144_r N _ (by decide) _ hσ) (congr (congrArg (Machine_passes_b144 N) (zl_1)) rfl)
def zMachine_passes_b112 (N : Nat) (σ : z_S) : Option (Int × z_S) := if zin ((σ.1 24) - 1) then (zMachine_unitAt N ((σ.1 24) - 1) σ).bind fun q119 => (zUnits_isWord N q119.1 q119.2).bind fun q122 => (zMachine_unitAt N (q122.2.1 24) q122.2).bind fun q130 => (zUnits_isWord N q130.1 q130.2).bind fun q133 => if q122.1 = q133.1 then zMachine_passes_b143 N q133.2 else zMachine_passes_b139 N q133.2 else none
theorem zMachine_passes_b112_r (N : Nat) (σ : z_S) (hσ : zR σ) : zrel (zMachine_passes_b112 N σ) (Machine_passes_b112 N (zo σ)) := by
  unfold zMachine_passes_b112 Machine_passes_b112
  refine zr_g (fun g1 => ?_)
  refine zr_bind (zr_of (zMachine_unitAt_r N _ g1 _ hσ) (congr (congrArg (Machine_unitAt N) (zI_sub (zo_fld rfl 24) (zl_1))) rfl)) (fun r119 s119σ hr119 hs119 => ?_)
  dsimp only
  refine zr_bind (zr_of (zUnits_isWord_r N _ hr119 _ hs119) (congr (congrArg (Units_isWord N) rfl) rfl)) (fun r122 s122σ hr122 hs122 => ?_)
  dsimp only
  refine zr_bind (zr_of (zMachine_unitAt_r N _ (hs122.1 24) _ hs122) (congr (congrArg (Machine_unitAt N) (zo_fld rfl 24)) rfl)) (fun r130 s130σ hr130 hs130 => ?_)
  dsimp only
  refine zr_bind (zr_of (zUnits_isWord_r N _ hr130 _ hs130) (congr (congrArg (Units_isWord N) rfl) rfl)) (fun r133 s133σ hr133 hs133 => ?_)
  dsimp only
  refine zr_ite (zI_eq rfl rfl hr122 hr133) ?_ ?_
  · exact zr_of (zMachine_passes_b143_r N  _ hs133) (congrArg (Machine_passes_b143 N) rfl)
  · exact zr_of (zMachine_passes_b139_r N  _ hs133) (congrArg (Machine_passes_b139 N) rfl)
def zMachine_passes_b177 (N : Nat) (s0 : Int) (σ : z_S) : Option (Int × z_S) := if zB s0 then some (s0, σ) else none
theorem zMachine_passes_b177_r (N : Nat) (s0 : Int) (hs0 : zin s0) (σ : z_S) (hσ : zR σ) : zrel (zMachine_passes_b177 N s0 σ) (Machine_passes_b177 N (zI s0) (zo σ)) := by
  unfold zMachine_passes_b177 Machine_passes_b177
  refine zr_gg (zg_B rfl) (fun g1 => ?_)
  exact zr_some rfl hs0 rfl hσ
def zMachine_passes_b176 (N : Nat) (σ : z_S) : Option (Int × z_S) := zMachine_passes_b177 N 0 σ
theorem zMachine_passes_b176_r (N : Nat) (σ : z_S) (hσ : zR σ) : zrel (zMachine_passes_b176 N σ) (Machine_passes_b176 N (zo σ)) := by
  unfold zMachine_passes_b176 Machine_passes_b176
  exact zr_of (zMachine_passes_b177_r N _ (by decide) _ hσ) (congr (congrArg (Machine_passes_b177 N) (zl_0)) rfl)
def zMachine_passes_b172 (N : Nat) (σ : z_S) : Option (Int × z_S) := zMachine_passes_b177 N 1 σ
theorem zMachine_passes_b172_r (N : Nat) (σ : z_S) (hσ : zR σ) : zrel (zMachine_passes_b172 N σ) (Machine_passes_b172 N (zo σ)) := by
  unfold zMachine_passes_b172 Machine_passes_b172
  exact zr_of (zMachine_passes_b177_r N _ (by decide) _ hσ) (congr (congrArg (Machine_passes_b177 N) (zl_1)) rfl)
def zMachine_passes_b145 (N : Nat) (σ : z_S) : Option (Int × z_S) := if zin ((σ.1 24) - 1) then (zMachine_unitAt N ((σ.1 24) - 1) σ).bind fun q152 => (zUnits_isWord N q152.1 q152.2).bind fun q155 => (zMachine_unitAt N (q155.2.1 24) q155.2).bind fun q163 => (zUnits_isWord N q163.1 q163.2).bind fun q166 => if q155.1 = q166.1 then zMachine_passes_b172 N q166.2 else zMachine_passes_b176 N q166.2 else none
theorem zMachine_passes_b145_r (N : Nat) (σ : z_S) (hσ : zR σ) : zrel (zMachine_passes_b145 N σ) (Machine_passes_b145 N (zo σ)) := by
  unfold zMachine_passes_b145 Machine_passes_b145
  refine zr_g (fun g1 => ?_)
  refine zr_bind (zr_of (zMachine_unitAt_r N _ g1 _ hσ) (congr (congrArg (Machine_unitAt N) (zI_sub (zo_fld rfl 24) (zl_1))) rfl)) (fun r152 s152σ hr152 hs152 => ?_)
  dsimp only
  refine zr_bind (zr_of (zUnits_isWord_r N _ hr152 _ hs152) (congr (congrArg (Units_isWord N) rfl) rfl)) (fun r155 s155σ hr155 hs155 => ?_)
  dsimp only
  refine zr_bind (zr_of (zMachine_unitAt_r N _ (hs155.1 24) _ hs155) (congr (congrArg (Machine_unitAt N) (zo_fld rfl 24)) rfl)) (fun r163 s163σ hr163 hs163 => ?_)
  dsimp only
  refine zr_bind (zr_of (zUnits_isWord_r N _ hr163 _ hs163) (congr (congrArg (Units_isWord N) rfl) rfl)) (fun r166 s166σ hr166 hs166 => ?_)
  dsimp only
  refine zr_ite (zI_eq rfl rfl hr155 hr166) ?_ ?_
  · exact zr_of (zMachine_passes_b172_r N  _ hs166) (congrArg (Machine_passes_b172 N) rfl)
  · exact zr_of (zMachine_passes_b176_r N  _ hs166) (congrArg (Machine_passes_b176 N) rfl)
def zMachine_passes_b178 (N : Nat) (x2 : Int) (σ : z_S) : Option (Int × z_S) := (zMachine_takesGroupAgain N x2 σ).bind fun q180 => if zB q180.1 then some (q180.1, q180.2) else none
theorem zMachine_passes_b178_r (N : Nat) (x2 : Int) (hx2 : zin x2) (σ : z_S) (hσ : zR σ) : zrel (zMachine_passes_b178 N x2 σ) (Machine_passes_b178 N (zI x2) (zo σ)) := by
  unfold zMachine_passes_b178 Machine_passes_b178
  refine zr_bind (zr_of (zMachine_takesGroupAgain_r N _ hx2 _ hσ) (congr (congrArg (Machine_takesGroupAgain N) rfl) rfl)) (fun r180 s180σ hr180 hs180 => ?_)
  dsimp only
  refine zr_gg (zg_B rfl) (fun g1 => ?_)
  exact zr_some rfl hr180 rfl hs180
def zMachine_passes_b0 (N : Nat) (x1 : Int) (x2 : Int) (σ : z_S) : Option (Int × z_S) := if x1 = 7 then zMachine_passes_b32 N σ else if x1 = 8 then zMachine_passes_b71 N σ else if x1 = 9 then zMachine_passes_b112 N σ else if x1 = 10 then zMachine_passes_b145 N σ else zMachine_passes_b178 N x2 σ
theorem zMachine_passes_b0_r (N : Nat) (x1 : Int) (hx1 : zin x1) (x2 : Int) (hx2 : zin x2) (σ : z_S) (hσ : zR σ) : zrel (zMachine_passes_b0 N x1 x2 σ) (Machine_passes_b0 N (zI x1) (zI x2) (zo σ)) := by
  unfold zMachine_passes_b0 Machine_passes_b0
  refine zr_ite (zI_eq rfl (zl_7) hx1 (by decide)) ?_ ?_
  · exact zr_of (zMachine_passes_b32_r N  _ hσ) (congrArg (Machine_passes_b32 N) rfl)
  · refine zr_ite (zI_eq rfl (zl_8) hx1 (by decide)) ?_ ?_
    · exact zr_of (zMachine_passes_b71_r N  _ hσ) (congrArg (Machine_passes_b71 N) rfl)
    · refine zr_ite (zI_eq rfl (zl_9) hx1 (by decide)) ?_ ?_
      · exact zr_of (zMachine_passes_b112_r N  _ hσ) (congrArg (Machine_passes_b112 N) rfl)
      · refine zr_ite (zI_eq rfl (zl_10) hx1 (by decide)) ?_ ?_
        · exact zr_of (zMachine_passes_b145_r N  _ hσ) (congrArg (Machine_passes_b145 N) rfl)
        · exact zr_of (zMachine_passes_b178_r N _ hx2 _ hσ) (congr (congrArg (Machine_passes_b178 N) rfl) rfl)
def zMachine_passes (N : Nat) (x1 : Int) (x2 : Int) (σ : z_S) : Option (Int × z_S) := zMachine_passes_b0 N x1 x2 σ
theorem zMachine_passes_r (N : Nat) (x1 : Int) (hx1 : zin x1) (x2 : Int) (hx2 : zin x2) (σ : z_S) (hσ : zR σ) : zrel (zMachine_passes N x1 x2 σ) (Machine_passes N (zI x1) (zI x2) (zo σ)) := by
  unfold zMachine_passes Machine_passes
  exact zr_of (zMachine_passes_b0_r N _ hx1 _ hx2 _ hσ) (congr (congr (congrArg (Machine_passes_b0 N) rfl) rfl) rfl)
