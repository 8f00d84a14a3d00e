def zMachine_addChoice_b0 (N : Nat) (x1 : Int) (σ : z_S) : Option (Int × z_S) := (zRows_write N 19 (σ.1 22) x1 σ).bind fun q9 => (zRows_write N 20 (q9.2.1 22) (q9.2.1 24) q9.2).bind fun q24 => (zRows_write N 21 (q24.2.1 22) (q24.2.1 23) q24.2).bind fun q39 => if zin ((q39.2.1 22) + 1) then some (0, (zF q39.2 22 ((q39.2.1 22) + 1))) else none
theorem zMachine_addChoice_b0_r (N : Nat) (x1 : Int) (hx1 : zin x1) (σ : z_S) (hσ : zR σ) : zrel (zMachine_addChoice_b0 N x1 σ) (Machine_addChoice_b0 N (zI x1) (zo σ)) := by
  unfold zMachine_addChoice_b0 Machine_addChoice_b0
  refine zr_bind (zr_of (zRows_write_r N 19 _ (hσ.1 22) _ hx1 _ hσ) (congr (congr (congrArg (Rows_write N 19) (zo_fld rfl 22)) rfl) rfl)) (fun r9 s9σ hr9 hs9 => ?_)
  dsimp only
  refine zr_bind (zr_of (zRows_write_r N 20 _ (hs9.1 22) _ (hs9.1 24) _ hs9) (congr (congr (congrArg (Rows_write N 20) (zo_fld rfl 22)) (zo_fld rfl 24)) rfl)) (fun r24 s24σ hr24 hs24 => ?_)
  dsimp only
  refine zr_bind (zr_of (zRows_write_r N 21 _ (hs24.1 22) _ (hs24.1 23) _ hs24) (congr (congr (congrArg (Rows_write N 21) (zo_fld rfl 22)) (zo_fld rfl 23)) rfl)) (fun r39 s39σ hr39 hs39 => ?_)
  dsimp only
  refine zr_g (fun g1 => ?_)
  exact zr_some (zl_0) (by decide) (zo_F (k := 22) rfl (zI_add (zo_fld rfl 22) (zl_1))) (zR_F (k := 22) hs39 g1)
def zMachine_addChoice (N : Nat) (x1 : Int) (σ : z_S) : Option (Int × z_S) := zMachine_addChoice_b0 N x1 σ
theorem zMachine_addChoice_r (N : Nat) (x1 : Int) (hx1 : zin x1) (σ : z_S) (hσ : zR σ) : zrel (zMachine_addChoice N x1 σ) (Machine_addChoice N (zI x1) (zo σ)) := by
  unfold zMachine_addChoice Machine_addChoice
  exact zr_of (zMachine_addChoice_b0_r N _ hx1 _ hσ) (congr (congrArg (Machine_addChoice_b0 N) rfl) rfl)
def zMachine_setCell_b52 (N : Nat) (σ : z_S) : Option (Int × z_S) := some (0, σ)
theorem zMachine_setCell_b52_r (N : Nat) (σ : z_S) (hσ : zR σ) : zrel (zMachine_setCell_b52 N σ) (Machine_setCell_b52 N (zo σ)) := by
  unfold zMachine_setCell_b52 Machine_setCell_b52
  exact zr_some (zl_0) (by decide) rfl hσ
def zMachine_setCell_b14 (N : Nat) (x1 : Int) (x2 : Int) (x3 : Int) (σ : z_S) : Option (Int × z_S) := if zin (x3 + 1) then (zRows_write N 22 (σ.1 23) (zor (zshl x1 16) (x3 + 1)) σ).bind fun q30 => if zin ((q30.2.1 23) + 1) then (zRows_write N 18 x1 x2 (zF q30.2 23 ((q30.2.1 23) + 1))).bind fun q49 => zMachine_setCell_b52 N q49.2 else none else none
theorem zMachine_setCell_b14_r (N : Nat) (x1 : Int) (hx1 : zin x1) (x2 : Int) (hx2 : zin x2) (x3 : Int) (hx3 : zin x3) (σ : z_S) (hσ : zR σ) : zrel (zMachine_setCell_b14 N x1 x2 x3 σ) (Machine_setCell_b14 N (zI x1) (zI x2) (zI x3) (zo σ)) := by
  unfold zMachine_setCell_b14 Machine_setCell_b14
  refine zr_g (fun g1 => ?_)
  refine zr_bind (zr_of (zRows_write_r N 22 _ (hσ.1 23) _ (zin_toInt _) _ hσ) (congr (congr (congrArg (Rows_write N 22) (zo_fld rfl 23)) (zI_or (zI_shl rfl (zl_16)) (zI_add rfl (zl_1)))) rfl)) (fun r30 s30σ hr30 hs30 => ?_)
  dsimp only
  refine zr_g (fun g2 => ?_)
  refine zr_bind (zr_of (zRows_write_r N 18 _ hx1 _ hx2 _ (zR_F (k := 23) hs30 g2)) (congr (congr (congrArg (Rows_write N 18) rfl) rfl) (zo_F (k := 23) rfl (zI_add (zo_fld rfl 23) (zl_1))))) (fun r49 s49σ hr49 hs49 => ?_)
  dsimp only
  exact zr_of (zMachine_setCell_b52_r N  _ hs49) (congrArg (Machine_setCell_b52 N) rfl)
def zMachine_setCell_b0 (N : Nat) (x1 : Int) (x2 : Int) (σ : z_S) : Option (Int × z_S) := (zRows_read N 18 x1 σ).bind fun q5 => if q5.1 = x2 then zMachine_setCell_b52 N q5.2 else zMachine_setCell_b14 N x1 x2 q5.1 q5.2
theorem zMachine_setCell_b0_r (N : Nat) (x1 : Int) (hx1 : zin x1) (x2 : Int) (hx2 : zin x2) (σ : z_S) (hσ : zR σ) : zrel (zMachine_setCell_b0 N x1 x2 σ) (Machine_setCell_b0 N (zI x1) (zI x2) (zo σ)) := by
  unfold zMachine_setCell_b0 Machine_setCell_b0
  refine zr_bind (zr_of (zRows_read_r N 18 _ hx1 _ hσ) (congr (congrArg (Rows_read N 18) rfl) rfl)) (fun r5 s5σ hr5 hs5 => ?_)
  dsimp only
  refine zr_ite (zI_eq rfl rfl hr5 hx2) ?_ ?_
  · exact zr_of (zMachine_setCell_b52_r N  _ hs5) (congrArg (Machine_setCell_b52 N) rfl)
  · exact zr_of (zMachine_setCell_b14_r N _ hx1 _ hx2 _ hr5 _ hs5) (congr (congr (congr (congrArg (Machine_setCell_b14 N) rfl) rfl) rfl) rfl)
def zMachine_setCell (N : Nat) (x1 : Int) (x2 : Int) (σ : z_S) : Option (Int × z_S) := zMachine_setCell_b0 N x1 x2 σ
theorem zMachine_setCell_r (N : Nat) (x1 : Int) (hx1 : zin x1) (x2 : Int) (hx2 : zin x2) (σ : z_S) (hσ : zR σ) : zrel (zMachine_setCell N x1 x2 σ) (Machine_setCell N (zI x1) (zI x2) (zo σ)) := by
  unfold zMachine_setCell Machine_setCell
  exact zr_of (zMachine_setCell_b0_r N _ hx1 _ hx2 _ hσ) (congr (congr (congrArg (Machine_setCell_b0 N) rfl) rfl) rfl)
def zMachine_goOnOrEnd_b89 (N : Nat) (x4 : Int) (x5 : Int) (σ : z_S) : Option (Int × z_S) := (zMachine_addChoice N x4 σ).bind fun q92 => some (x5, q92.2)
theorem zMachine_goOnOrEnd_b89_r (N : Nat) (x4 : Int) (hx4 : zin x4) (x5 : Int) (hx5 : zin x5) (σ : z_S) (hσ : zR σ) : zrel (zMachine_goOnOrEnd_b89 N x4 x5 σ) (Machine_goOnOrEnd_b89 N (zI x4) (zI x5) (zo σ)) := by
  unfold zMachine_goOnOrEnd_b89 Machine_goOnOrEnd_b89
  refine zr_bind (zr_of (zMachine_addChoice_r N _ hx4 _ hσ) (congr (congrArg (Machine_addChoice N) rfl) rfl)) (fun r92 s92σ hr92 hs92 => ?_)
  dsimp only
  exact zr_some rfl hx5 rfl hs92
def zMachine_goOnOrEnd_b80 (N : Nat) (x4 : Int) (x5 : Int) (σ : z_S) : Option (Int × z_S) := (zMachine_addChoice N x5 σ).bind fun q83 => some (x4, q83.2)
theorem zMachine_goOnOrEnd_b80_r (N : Nat) (x4 : Int) (hx4 : zin x4) (x5 : Int) (hx5 : zin x5) (σ : z_S) (hσ : zR σ) : zrel (zMachine_goOnOrEnd_b80 N x4 x5 σ) (Machine_goOnOrEnd_b80 N (zI x4) (zI x5) (zo σ)) := by
  unfold zMachine_goOnOrEnd_b80 Machine_goOnOrEnd_b80
  refine zr_bind (zr_of (zMachine_addChoice_r N _ hx5 _ hσ) (congr (congrArg (Machine_addChoice N) rfl) rfl)) (fun r83 s83σ hr83 hs83 => ?_)
  dsimp only
  exact zr_some rfl hx4 rfl hs83
def zMachine_goOnOrEnd_b66 (N : Nat) (x1 : Int) (x4 : Int) (x5 : Int) (σ : z_S) : Option (Int × z_S) := (zRows_read N 9 x1 σ).bind fun q74 => if q74.1 = 0 then zMachine_goOnOrEnd_b89 N x4 x5 q74.2 else zMachine_goOnOrEnd_b80 N x4 x5 q74.2
theorem zMachine_goOnOrEnd_b66_r (N : Nat) (x1 : Int) (hx1 : zin x1) (x4 : Int) (hx4 : zin x4) (x5 : Int) (hx5 : zin x5) (σ : z_S) (hσ : zR σ) : zrel (zMachine_goOnOrEnd_b66 N x1 x4 x5 σ) (Machine_goOnOrEnd_b66 N (zI x1) (zI x4) (zI x5) (zo σ)) := by
  unfold zMachine_goOnOrEnd_b66 Machine_goOnOrEnd_b66
  refine zr_bind (zr_of (zRows_read_r N 9 _ hx1 _ hσ) (congr (congrArg (Rows_read N 9) rfl) rfl)) (fun r74 s74σ hr74 hs74 => ?_)
  dsimp only
  refine zr_ite (zI_eq rfl (zl_0) hr74 (by decide)) ?_ ?_
  · exact zr_of (zMachine_goOnOrEnd_b89_r N _ hx4 _ hx5 _ hs74) (congr (congr (congrArg (Machine_goOnOrEnd_b89 N) rfl) rfl) rfl)
  · exact zr_of (zMachine_goOnOrEnd_b80_r N _ hx4 _ hx5 _ hs74) (congr (congr (congrArg (Machine_goOnOrEnd_b80 N) rfl) rfl) rfl)
def zMachine_goOnOrEnd_b63 (N : Nat) (x5 : Int) (σ : z_S) : Option (Int × z_S) := some (x5, σ)
theorem zMachine_goOnOrEnd_b63_r (N : Nat) (x5 : Int) (hx5 : zin x5) (σ : z_S) (hσ : zR σ) : zrel (zMachine_goOnOrEnd_b63 N x5 σ) (Machine_goOnOrEnd_b63 N (zI x5) (zo σ)) := by
  unfold zMachine_goOnOrEnd_b63 Machine_goOnOrEnd_b63
  exact zr_some rfl hx5 rfl hσ
def zMachine_goOnOrEnd_b48 (N : Nat) (x1 : Int) (x2 : Int) (x4 : Int) (x5 : Int) (σ : z_S) : Option (Int × z_S) := (zRows_read N 7 x1 σ).bind fun q57 => if q57.1 ≤ x2 then zMachine_goOnOrEnd_b66 N x1 x4 x5 q57.2 else zMachine_goOnOrEnd_b63 N x5 q57.2
theorem zMachine_goOnOrEnd_b48_r (N : Nat) (x1 : Int) (hx1 : zin x1) (x2 : Int) (hx2 : zin x2) (x4 : Int) (hx4 : zin x4) (x5 : Int) (hx5 : zin x5) (σ : z_S) (hσ : zR σ) : zrel (zMachine_goOnOrEnd_b48 N x1 x2 x4 x5 σ) (Machine_goOnOrEnd_b48 N (zI x1) (zI x2) (zI x4) (zI x5) (zo σ)) := by
  unfold zMachine_goOnOrEnd_b48 Machine_goOnOrEnd_b48
  refine zr_bind (zr_of (zRows_read_r N 7 _ hx1 _ hσ) (congr (congrArg (Rows_read N 7) rfl) rfl)) (fun r57 s57σ hr57 hs57 => ?_)
  dsimp only
  refine zr_ite (zI_le rfl rfl hr57 hx2) ?_ ?_
  · exact zr_of (zMachine_goOnOrEnd_b66_r N _ hx1 _ hx4 _ hx5 _ hs57) (congr (congr (congr (congrArg (Machine_goOnOrEnd_b66 N) rfl) rfl) rfl) rfl)
  · exact zr_of (zMachine_goOnOrEnd_b63_r N _ hx5 _ hs57) (congr (congrArg (Machine_goOnOrEnd_b63 N) rfl) rfl)
def zMachine_goOnOrEnd_b45 (N : Nat) (x4 : Int) (σ : z_S) : Option (Int × z_S) := some (x4, σ)
theorem zMachine_goOnOrEnd_b45_r (N : Nat) (x4 : Int) (hx4 : zin x4) (σ : z_S) (hσ : zR σ) : zrel (zMachine_goOnOrEnd_b45 N x4 σ) (Machine_goOnOrEnd_b45 N (zI x4) (zo σ)) := by
  unfold zMachine_goOnOrEnd_b45 Machine_goOnOrEnd_b45
  exact zr_some rfl hx4 rfl hσ
def zMachine_goOnOrEnd_b0 (N : Nat) (x1 : Int) (x2 : Int) (σ : z_S) : Option (Int × z_S) := (zRows_read N 12 x1 σ).bind fun q8 => (zRows_read N 2 q8.1 q8.2).bind fun q20 => (zRows_read N 8 x1 q20.2).bind fun q39 => if x2 < q39.1 then if zin (q8.1 + 1) then zMachine_goOnOrEnd_b48 N x1 x2 q20.1 (q8.1 + 1) q39.2 else none else zMachine_goOnOrEnd_b45 N q20.1 q39.2
theorem zMachine_goOnOrEnd_b0_r (N : Nat) (x1 : Int) (hx1 : zin x1) (x2 : Int) (hx2 : zin x2) (σ : z_S) (hσ : zR σ) : zrel (zMachine_goOnOrEnd_b0 N x1 x2 σ) (Machine_goOnOrEnd_b0 N (zI x1) (zI x2) (zo σ)) := by
  unfold zMachine_goOnOrEnd_b0 Machine_goOnOrEnd_b0
  refine zr_bind (zr_of (zRows_read_r N 12 _ hx1 _ hσ) (congr (congrArg (Rows_read N 12) rfl) rfl)) (fun r8 s8σ hr8 hs8 => ?_)
  dsimp only
  refine zr_bind (zr_of (zRows_read_r N 2 _ hr8 _ hs8) (congr (congrArg (Rows_read N 2) rfl) rfl)) (fun r20 s20σ hr20 hs20 => ?_)
  dsimp only
  refine zr_bind (zr_of (zRows_read_r N 8 _ hx1 _ hs20) (congr (congrArg (Rows_read N 8) rfl) rfl)) (fun r39 s39σ hr39 hs39 => ?_)
  dsimp only
  refine zr_ite (zI_lt rfl rfl hx2 hr39) ?_ ?_
  · refine zr_g (fun g1 => ?_)
    exact zr_of (zMachine_goOnOrEnd_b48_r N _ hx1 _ hx2 _ hr20 _ g1 _ hs39) (congr (congr (congr (congr (congrArg (Machine_goOnOrEnd_b48 N) rfl) rfl) rfl) (zI_add rfl (zl_1))) rfl)
  · exact zr_of (zMachine_goOnOrEnd_b45_r N _ hr20 _ hs39) (congr (congrArg (Machine_goOnOrEnd_b45 N) rfl) rfl)
def zMachine_goOnOrEnd (N : Nat) (x1 : Int) (x2 : Int) (σ : z_S) : Option (Int × z_S) := zMachine_goOnOrEnd_b0 N x1 x2 σ
theorem zMachine_goOnOrEnd_r (N : Nat) (x1 : Int) (hx1 : zin x1) (x2 : Int) (hx2 : zin x2) (σ : z_S) (hσ : zR σ) : zrel (zMachine_goOnOrEnd N x1 x2 σ) (Machine_goOnOrEnd N (zI x1) (zI x2) (zo σ)) := by
  unfold zMachine_goOnOrEnd Machine_goOnOrEnd
  exact zr_of (zMachine_goOnOrEnd_b0_r N _ hx1 _ hx2 _ hσ) (congr (congr (congrArg (Machine_goOnOrEnd_b0 N) rfl) rfl) rfl)
def zMachine_enterRepetition_b58 (N : Nat) (σ : z_S) : Option (Int × z_S) := some (0, σ)
theorem zMachine_enterRepetition_b58_r (N : Nat) (σ : z_S) (hσ : zR σ) : zrel (zMachine_enterRepetition_b58 N σ) (Machine_enterRepetition_b58 N (zo σ)) := by
  unfold zMachine_enterRepetition_b58 Machine_enterRepetition_b58
  exact zr_some (zl_0) (by decide) rfl hσ
def zMachine_enterRepetition_b44 (N : Nat) (k39 : Int → Int → z_S → Option (Int × z_S)) (x2 : Int) (x3 : Int) (σ : z_S) : Option (Int × z_S) := if zin (0 + x3) then (zMachine_setCell N (0 + x3) (-1) σ).bind fun q49 => if zin (x3 + 1) then k39 x2 (x3 + 1) q49.2 else none else none
theorem zMachine_enterRepetition_b44_r (N : Nat) (k39 : Int → Int → z_S → Option (Int × z_S)) (k39' : Int32 → Int32 → g_S → Option (Int32 × g_S)) (hk39 : ∀ (y0 : Int) (_ : zin y0) (y1 : Int) (_ : zin y1) (σ : z_S), zR σ → zrel (k39 y0 y1 σ) (k39' (zI y0) (zI y1) (zo σ))) (x2 : Int) (hx2 : zin x2) (x3 : Int) (hx3 : zin x3) (σ : z_S) (hσ : zR σ) : zrel (zMachine_enterRepetition_b44 N k39 x2 x3 σ) (Machine_enterRepetition_b44 N k39' (zI x2) (zI x3) (zo σ)) := by
  unfold zMachine_enterRepetition_b44 Machine_enterRepetition_b44
  refine zr_g (fun g1 => ?_)
  refine zr_bind (zr_of (zMachine_setCell_r N _ g1 _ (by decide) _ hσ) (congr (congr (congrArg (Machine_setCell N) (zI_add (zl_0) rfl)) (zl_m1)) rfl)) (fun r49 s49σ hr49 hs49 => ?_)
  dsimp only
  refine zr_g (fun g2 => ?_)
  exact zr_of (hk39 _ hx2 _ g2 _ hs49) (congr (congr (congrArg (k39') rfl) (zI_add rfl (zl_1))) rfl)
def zMachine_enterRepetition_b39 (N : Nat) (k39 : Int → Int → z_S → Option (Int × z_S)) (x2 : Int) (x3 : Int) (σ : z_S) : Option (Int × z_S) := if x2 < x3 then zMachine_enterRepetition_b58 N σ else zMachine_enterRepetition_b44 N k39 x2 x3 σ
theorem zMachine_enterRepetition_b39_r (N : Nat) (k39 : Int → Int → z_S → Option (Int × z_S)) (k39' : Int32 → Int32 → g_S → Option (Int32 × g_S)) (hk39 : ∀ (y0 : Int) (_ : zin y0) (y1 : Int) (_ : zin y1) (σ : z_S), zR σ → zrel (k39 y0 y1 σ) (k39' (zI y0) (zI y1) (zo σ))) (x2 : Int) (hx2 : zin x2) (x3 : Int) (hx3 : zin x3) (σ : z_S) (hσ : zR σ) : zrel (zMachine_enterRepetition_b39 N k39 x2 x3 σ) (Machine_enterRepetition_b39 N k39' (zI x2) (zI x3) (zo σ)) := by
  unfold zMachine_enterRepetition_b39 Machine_enterRepetition_b39
  refine zr_ite (zI_lt rfl rfl hx2 hx3) ?_ ?_
  · exact zr_of (zMachine_enterRepetition_b58_r N  _ hσ) (congrArg (Machine_enterRepetition_b58 N) rfl)
  · exact zr_of (zMachine_enterRepetition_b44_r N k39 k39' hk39 _ hx2 _ hx3 _ hσ) (congr (congr (congrArg (Machine_enterRepetition_b44 N k39') rfl) rfl) rfl)
def zMachine_enterRepetition_l39 (N : Nat) : Nat → Int → Int → z_S → Option (Int × z_S)
  | 0 => fun _ _ _ => none
  | n + 1 => fun x2 x3 σ => zMachine_enterRepetition_b39 N (zMachine_enterRepetition_l39 N n) x2 x3 σ
theorem zMachine_enterRepetition_l39_r (N : Nat) (n : Nat) : ∀ (x2 : Int) (hx2 : zin x2) (x3 : Int) (hx3 : zin x3) (σ : z_S) (_ : zR σ), zrel (zMachine_enterRepetition_l39 N n x2 x3 σ) (Machine_enterRepetition_l39 N n (zI x2) (zI x3) (zo σ)) := by
  induction n with
  | zero => intro x2 hx2 x3 hx3 σ hσ r s h; cases h
  | succ n ih => intro x2 hx2 x3 hx3 σ hσ; exact zMachine_enterRepetition_b39_r N _ _ (fun x2 hx2 x3 hx3 σ hσ => ih x2 hx2 x3 hx3 σ hσ) x2 hx2 x3 hx3 σ hσ
def zMachine_enterRepetition_b0 (N : Nat) (x1 : Int) (σ : z_S) : Option (Int × z_S) := if zin (163 + x1) then (zMachine_setCell N (163 + x1) (σ.1 24) σ).bind fun q10 => (zRows_read N 11 x1 q10.2).bind fun q21 => (zRows_read N 10 x1 q21.2).bind fun q33 => if zin (q33.1 + 1) then zMachine_enterRepetition_l39 N N q21.1 (q33.1 + 1) q33.2 else none else none
theorem zMachine_enterRepetition_b0_r (N : Nat) (x1 : Int) (hx1 : zin x1) (σ : z_S) (hσ : zR σ) : zrel (zMachine_enterRepetition_b0 N x1 σ) (Machine_enterRepetition_b0 N (zI x1) (zo σ)) := by
  unfold zMachine_enterRepetition_b0 Machine_enterRepetition_b0
  refine zr_g (fun g1 => ?_)
  refine zr_bind (zr_of (zMachine_setCell_r N _ g1 _ (hσ.1 24) _ hσ) (congr (congr (congrArg (Machine_setCell N) (zI_add (zl_163) rfl)) (zo_fld rfl 24)) rfl)) (fun r10 s10σ hr10 hs10 => ?_)
  dsimp only
  refine zr_bind (zr_of (zRows_read_r N 11 _ hx1 _ hs10) (congr (congrArg (Rows_read N 11) rfl) rfl)) (fun r21 s21σ hr21 hs21 => ?_)
  dsimp only
  refine zr_bind (zr_of (zRows_read_r N 10 _ hx1 _ hs21) (congr (congrArg (Rows_read N 10) rfl) rfl)) (fun r33 s33σ hr33 hs33 => ?_)
  dsimp only
  refine zr_g (fun g2 => ?_)
  exact zr_of (zMachine_enterRepetition_l39_r N N _ hr21 _ g2 _ hs33) (congr (congr (congrArg (Machine_enterRepetition_l39 N N) rfl) (zI_add rfl (zl_1))) rfl)
def zMachine_enterRepetition (N : Nat) (x1 : Int) (σ : z_S) : Option (Int × z_S) := zMachine_enterRepetition_b0 N x1 σ
theorem zMachine_enterRepetition_r (N : Nat) (x1 : Int) (hx1 : zin x1) (σ : z_S) (hσ : zR σ) : zrel (zMachine_enterRepetition N x1 σ) (Machine_enterRepetition N (zI x1) (zo σ)) := by
  unfold zMachine_enterRepetition Machine_enterRepetition
  exact zr_of (zMachine_enterRepetition_b0_r N _ hx1 _ hσ) (congr (congrArg (Machine_enterRepetition_b0 N) rfl) rfl)
def zMachine_endRepetition_b69 (N : Nat) (x1 : Int) (x2 : Int) (σ : z_S) : Option (Int × z_S) := if zin (63 + x1) then if zin (x2 + 1) then (zMachine_setCell N (63 + x1) (x2 + 1) σ).bind fun q77 => (zMachine_goOnOrEnd N x1 (x2 + 1) q77.2).bind fun q85 => some (q85.1, q85.2) else none else none
theorem zMachine_endRepetition_b69_r (N : Nat) (x1 : Int) (hx1 : zin x1) (x2 : Int) (hx2 : zin x2) (σ : z_S) (hσ : zR σ) : zrel (zMachine_endRepetition_b69 N x1 x2 σ) (Machine_endRepetition_b69 N (zI x1) (zI x2) (zo σ)) := by
  unfold zMachine_endRepetition_b69 Machine_endRepetition_b69
  refine zr_g (fun g1 => ?_)
  refine zr_g (fun g2 => ?_)
  refine zr_bind (zr_of (zMachine_setCell_r N _ g1 _ g2 _ hσ) (congr (congr (congrArg (Machine_setCell N) (zI_add (zl_63) rfl)) (zI_add rfl (zl_1))) rfl)) (fun r77 s77σ hr77 hs77 => ?_)
  dsimp only
  refine zr_bind (zr_of (zMachine_goOnOrEnd_r N _ hx1 _ g2 _ hs77) (congr (congr (congrArg (Machine_goOnOrEnd N) rfl) (zI_add rfl (zl_1))) rfl)) (fun r85 s85σ hr85 hs85 => ?_)
  dsimp only
  exact zr_some rfl hr85 rfl hs85
def zMachine_endRepetition_b66 (N : Nat) (σ : z_S) : Option (Int × z_S) := some ((-3), σ)
theorem zMachine_endRepetition_b66_r (N : Nat) (σ : z_S) (hσ : zR σ) : zrel (zMachine_endRepetition_b66 N σ) (Machine_endRepetition_b66 N (zo σ)) := by
  unfold zMachine_endRepetition_b66 Machine_endRepetition_b66
  exact zr_some (zl_m3) (by decide) rfl hσ
def zMachine_endRepetition_b59 (N : Nat) (x1 : Int) (x2 : Int) (σ : z_S) : Option (Int × z_S) := (zMachine_takesStep N σ).bind fun q60 => if q60.1 = 0 then zMachine_endRepetition_b66 N q60.2 else zMachine_endRepetition_b69 N x1 x2 q60.2
theorem zMachine_endRepetition_b59_r (N : Nat) (x1 : Int) (hx1 : zin x1) (x2 : Int) (hx2 : zin x2) (σ : z_S) (hσ : zR σ) : zrel (zMachine_endRepetition_b59 N x1 x2 σ) (Machine_endRepetition_b59 N (zI x1) (zI x2) (zo σ)) := by
  unfold zMachine_endRepetition_b59 Machine_endRepetition_b59
  refine zr_bind (zr_of (zMachine_takesStep_r N  _ hσ) (congrArg (Machine_takesStep N) rfl)) (fun r60 s60σ hr60 hs60 => ?_)
  dsimp only
  refine zr_ite (zI_eq rfl (zl_0) hr60 (by decide)) ?_ ?_
  · exact zr_of (zMachine_endRepetition_b66_r N  _ hs60) (congrArg (Machine_endRepetition_b66 N) rfl)
  · exact zr_of (zMachine_endRepetition_b69_r N _ hx1 _ hx2 _ hs60) (congr (congr (congrArg (Machine_endRepetition_b69 N) rfl) rfl) rfl)
def zMachine_endRepetition_b56 (N : Nat) (σ : z_S) : Option (Int × z_S) := some ((-2), σ)
theorem zMachine_endRepetition_b56_r (N : Nat) (σ : z_S) (hσ : zR σ) : zrel (zMachine_endRepetition_b56 N σ) (Machine_endRepetition_b56 N (zo σ)) := by
  unfold zMachine_endRepetition_b56 Machine_endRepetition_b56
  exact zr_some (zl_m2) (by decide) rfl hσ
def zMachine_endRepetition_b37 (N : Nat) (x1 : Int) (x2 : Int) (σ : z_S) : Option (Int × z_S) := if zin (163 + x1) then (zRows_read N 18 (163 + x1) σ).bind fun q50 => if (σ.1 24) = q50.1 then zMachine_endRepetition_b56 N q50.2 else zMachine_endRepetition_b59 N x1 x2 q50.2 else none
theorem zMachine_endRepetition_b37_r (N : Nat) (x1 : Int) (hx1 : zin x1) (x2 : Int) (hx2 : zin x2) (σ : z_S) (hσ : zR σ) : zrel (zMachine_endRepetition_b37 N x1 x2 σ) (Machine_endRepetition_b37 N (zI x1) (zI x2) (zo σ)) := by
  unfold zMachine_endRepetition_b37 Machine_endRepetition_b37
  refine zr_g (fun g1 => ?_)
  refine zr_bind (zr_of (zRows_read_r N 18 _ g1 _ hσ) (congr (congrArg (Rows_read N 18) (zI_add (zl_163) rfl)) rfl)) (fun r50 s50σ hr50 hs50 => ?_)
  dsimp only
  refine zr_ite (zI_eq (zo_fld rfl 24) rfl (hσ.1 24) hr50) ?_ ?_
  · exact zr_of (zMachine_endRepetition_b56_r N  _ hs50) (congrArg (Machine_endRepetition_b56 N) rfl)
  · exact zr_of (zMachine_endRepetition_b59_r N _ hx1 _ hx2 _ hs50) (congr (congr (congrArg (Machine_endRepetition_b59 N) rfl) rfl) rfl)
def zMachine_endRepetition_b32 (N : Nat) (x1 : Int) (x2 : Int) (s0 : Int) (σ : z_S) : Option (Int × z_S) := if s0 = 0 then zMachine_endRepetition_b59 N x1 x2 σ else zMachine_endRepetition_b37 N x1 x2 σ
theorem zMachine_endRepetition_b32_r (N : Nat) (x1 : Int) (hx1 : zin x1) (x2 : Int) (hx2 : zin x2) (s0 : Int) (hs0 : zin s0) (σ : z_S) (hσ : zR σ) : zrel (zMachine_endRepetition_b32 N x1 x2 s0 σ) (Machine_endRepetition_b32 N (zI x1) (zI x2) (zI s0) (zo σ)) := by
  unfold zMachine_endRepetition_b32 Machine_endRepetition_b32
  refine zr_ite (zI_eq rfl (zl_0) hs0 (by decide)) ?_ ?_
  · exact zr_of (zMachine_endRepetition_b59_r N _ hx1 _ hx2 _ hσ) (congr (congr (congrArg (Machine_endRepetition_b59 N) rfl) rfl) rfl)
  · exact zr_of (zMachine_endRepetition_b37_r N _ hx1 _ hx2 _ hσ) (congr (congr (congrArg (Machine_endRepetition_b37 N) rfl) rfl) rfl)
def zMachine_endRepetition_b31 (N : Nat) (x1 : Int) (x2 : Int) (σ : z_S) : Option (Int × z_S) := zMachine_endRepetition_b32 N x1 x2 0 σ
theorem zMachine_endRepetition_b31_r (N : Nat) (x1 : Int) (hx1 : zin x1) (x2 : Int) (hx2 : zin x2) (σ : z_S) (hσ : zR σ) : zrel (zMachine_endRepetition_b31 N x1 x2 σ) (Machine_endRepetition_b31 N (zI x1) (zI x2) (zo σ)) := by
  unfold zMachine_endRepetition_b31 Machine_endRepetition_b31
  exact zr_of (zMachine_endRepetition_b32_r N _ hx1 _ hx2 _ (by decide) _ hσ) (congr (congr (congr (congrArg (Machine_endRepetition_b32 N) rfl) rfl) (zl_0)) rfl)
def zMachine_endRepetition_b27 (N : Nat) (x1 : Int) (x2 : Int) (σ : z_S) : Option (Int × z_S) := zMachine_endRepetition_b32 N x1 x2 1 σ
theorem zMachine_endRepetition_b27_r (N : Nat) (x1 : Int) (hx1 : zin x1) (x2 : Int) (hx2 : zin x2) (σ : z_S) (hσ : zR σ) : zrel (zMachine_endRepetition_b27 N x1 x2 σ) (Machine_endRepetition_b27 N (zI x1) (zI x2) (zo σ)) := by
  unfold zMachine_endRepetition_b27 Machine_endRepetition_b27
  exact zr_of (zMachine_endRepetition_b32_r N _ hx1 _ hx2 _ (by decide) _ hσ) (congr (congr (congr (congrArg (Machine_endRepetition_b32 N) rfl) rfl) (zl_1)) rfl)
def zMachine_endRepetition_b0 (N : Nat) (x1 : Int) (σ : z_S) : Option (Int × z_S) := if zin (63 + x1) then (zRows_read N 18 (63 + x1) σ).bind fun q8 => (zRows_read N 7 x1 q8.2).bind fun q21 => if q8.1 < q21.1 then zMachine_endRepetition_b31 N x1 q8.1 q21.2 else zMachine_endRepetition_b27 N x1 q8.1 q21.2 else none
theorem zMachine_endRepetition_b0_r (N : Nat) (x1 : Int) (hx1 : zin x1) (σ : z_S) (hσ : zR σ) : zrel (zMachine_endRepetition_b0 N x1 σ) (Machine_endRepetition_b0 N (zI x1) (zo σ)) := by
  unfold zMachine_endRepetition_b0 Machine_endRepetition_b0
  refine zr_g (fun g1 => ?_)
  refine zr_bind (zr_of (zRows_read_r N 18 _ g1 _ hσ) (congr (congrArg (Rows_read N 18) (zI_add (zl_63) rfl)) rfl)) (fun r8 s8σ hr8 hs8 => ?_)
  dsimp only
  refine zr_bind (zr_of (zRows_read_r N 7 _ hx1 _ hs8) (congr (congrArg (Rows_read N 7) rfl) rfl)) (fun r21 s21σ hr21 hs21 => ?_)
  dsimp only
  refine zr_ite (zI_lt rfl rfl hr8 hr21) ?_ ?_
  · exact zr_of (zMachine_endRepetition_b31_r N _ hx1 _ hr8 _ hs21) (congr (congr (congrArg (Machine_endRepetition_b31 N) rfl) rfl) rfl)
  · exact zr_of (zMachine_endRepetition_b27_r N _ hx1 _ hr8 _ hs21) (congr (congr (congrArg (Machine_endRepetition_b27 N) rfl) rfl) rfl)
def zMachine_endRepetition (N : Nat) (x1 : Int) (σ : z_S) : Option (Int × z_S) := zMachine_endRepetition_b0 N x1 σ
theorem zMachine_endRepetition_r (N : Nat) (x1 : Int) (hx1 : zin x1) (σ : z_S) (hσ : zR σ) : zrel (zMachine_endRepetition N x1 σ) (Machine_endRepetition N (zI x1) (zo σ)) := by
  unfold zMachine_endRepetition Machine_endRepetition
  exact zr_of (zMachine_endRepetition_b0_r N _ hx1 _ hσ) (congr (congrArg (Machine_endRepetition_b0 N) rfl) rfl)
def zMachine_beginLook_b47 (N : Nat) (σ : z_S) : Option (Int × z_S) := some (0, σ)
theorem zMachine_beginLook_b47_r (N : Nat) (σ : z_S) (hσ : zR σ) : zrel (zMachine_beginLook_b47 N σ) (Machine_beginLook_b47 N (zo σ)) := by
  unfold zMachine_beginLook_b47 Machine_beginLook_b47
  exact zr_some (zl_0) (by decide) rfl hσ
def zMachine_beginLook_b30 (N : Nat) (x3 : Int) (σ : z_S) : Option (Int × z_S) := if zin (x3 + 1) then (zRows_read N 2 (x3 + 1) σ).bind fun q41 => (zMachine_addChoice N q41.1 q41.2).bind fun q44 => zMachine_beginLook_b47 N q44.2 else none
theorem zMachine_beginLook_b30_r (N : Nat) (x3 : Int) (hx3 : zin x3) (σ : z_S) (hσ : zR σ) : zrel (zMachine_beginLook_b30 N x3 σ) (Machine_beginLook_b30 N (zI x3) (zo σ)) := by
  unfold zMachine_beginLook_b30 Machine_beginLook_b30
  refine zr_g (fun g1 => ?_)
  refine zr_bind (zr_of (zRows_read_r N 2 _ g1 _ hσ) (congr (congrArg (Rows_read N 2) (zI_add rfl (zl_1))) rfl)) (fun r41 s41σ hr41 hs41 => ?_)
  dsimp only
  refine zr_bind (zr_of (zMachine_addChoice_r N _ hr41 _ hs41) (congr (congrArg (Machine_addChoice N) rfl) rfl)) (fun r44 s44σ hr44 hs44 => ?_)
  dsimp only
  exact zr_of (zMachine_beginLook_b47_r N  _ hs44) (congrArg (Machine_beginLook_b47 N) rfl)
def zMachine_beginLook_b0 (N : Nat) (x1 : Int) (x2 : Int) (x3 : Int) (σ : z_S) : Option (Int × z_S) := (zRows_write N 23 x2 (σ.1 22) σ).bind fun q9 => (zRows_write N 24 x2 (q9.2.1 24) q9.2).bind fun q21 => if x1 = 21 then zMachine_beginLook_b30 N x3 q21.2 else zMachine_beginLook_b47 N q21.2
theorem zMachine_beginLook_b0_r (N : Nat) (x1 : Int) (hx1 : zin x1) (x2 : Int) (hx2 : zin x2) (x3 : Int) (hx3 : zin x3) (σ : z_S) (hσ : zR σ) : zrel (zMachine_beginLook_b0 N x1 x2 x3 σ) (Machine_beginLook_b0 N (zI x1) (zI x2) (zI x3) (zo σ)) := by
  unfold zMachine_beginLook_b0 Machine_beginLook_b0
  refine zr_bind (zr_of (zRows_write_r N 23 _ hx2 _ (hσ.1 22) _ hσ) (congr (congr (congrArg (Rows_write N 23) rfl) (zo_fld rfl 22)) rfl)) (fun r9 s9σ hr9 hs9 => ?_)
  dsimp only
  refine zr_bind (zr_of (zRows_write_r N 24 _ hx2 _ (hs9.1 24) _ hs9) (congr (congr (congrArg (Rows_write N 24) rfl) (zo_fld rfl 24)) rfl)) (fun r21 s21σ hr21 hs21 => ?_)
  dsimp only
  refine zr_ite (zI_eq rfl (zl_21) hx1 (by decide)) ?_ ?_
  · exact zr_of (zMachine_beginLook_b30_r N _ hx3 _ hs21) (congr (congrArg (Machine_beginLook_b30 N) rfl) rfl)
  · exact zr_of (zMachine_beginLook_b47_r N  _ hs21) (congrArg (Machine_beginLook_b47 N) rfl)
def zMachine_beginLook (N : Nat) (x1 : Int) (x2 : Int) (x3 : Int) (σ : z_S) : Option (Int × z_S) := zMachine_beginLook_b0 N x1 x2 x3 σ
theorem zMachine_beginLook_r (N : Nat) (x1 : Int) (hx1 : zin x1) (x2 : Int) (hx2 : zin x2) (x3 : Int) (hx3 : zin x3) (σ : z_S) (hσ : zR σ) : zrel (zMachine_beginLook N x1 x2 x3 σ) (Machine_beginLook N (zI x1) (zI x2) (zI x3) (zo σ)) := by
  unfold zMachine_beginLook Machine_beginLook
  exact zr_of (zMachine_beginLook_b0_r N _ hx1 _ hx2 _ hx3 _ hσ) (congr (congr (congr (congrArg (Machine_beginLook_b0 N) rfl) rfl) rfl) rfl)
def zMachine_perform_b180 (N : Nat) (x3 : Int) (σ : z_S) : Option (Int × z_S) := some (x3, σ)
theorem zMachine_perform_b180_r (N : Nat) (x3 : Int) (hx3 : zin x3) (σ : z_S) (hσ : zR σ) : zrel (zMachine_perform_b180 N x3 σ) (Machine_perform_b180 N (zI x3) (zo σ)) := by
  unfold zMachine_perform_b180 Machine_perform_b180
  exact zr_some rfl hx3 rfl hσ
def zMachine_perform_b174 (N : Nat) (x3 : Int) (x4 : Int) (σ : z_S) : Option (Int × z_S) := (zMachine_addChoice N x4 σ).bind fun q177 => zMachine_perform_b180 N x3 q177.2
theorem zMachine_perform_b174_r (N : Nat) (x3 : Int) (hx3 : zin x3) (x4 : Int) (hx4 : zin x4) (σ : z_S) (hσ : zR σ) : zrel (zMachine_perform_b174 N x3 x4 σ) (Machine_perform_b174 N (zI x3) (zI x4) (zo σ)) := by
  unfold zMachine_perform_b174 Machine_perform_b174
  refine zr_bind (zr_of (zMachine_addChoice_r N _ hx4 _ hσ) (congr (congrArg (Machine_addChoice N) rfl) rfl)) (fun r177 s177σ hr177 hs177 => ?_)
  dsimp only
  exact zr_of (zMachine_perform_b180_r N _ hx3 _ hs177) (congr (congrArg (Machine_perform_b180 N) rfl) rfl)
def zMachine_perform_b168 (N : Nat) (x3 : Int) (x4 : Int) (σ : z_S) : Option (Int × z_S) := if x4 = (-1) then zMachine_perform_b180 N x3 σ else zMachine_perform_b174 N x3 x4 σ
theorem zMachine_perform_b168_r (N : Nat) (x3 : Int) (hx3 : zin x3) (x4 : Int) (hx4 : zin x4) (σ : z_S) (hσ : zR σ) : zrel (zMachine_perform_b168 N x3 x4 σ) (Machine_perform_b168 N (zI x3) (zI x4) (zo σ)) := by
  unfold zMachine_perform_b168 Machine_perform_b168
  refine zr_ite (zI_eq rfl (zl_m1) hx4 (by decide)) ?_ ?_
  · exact zr_of (zMachine_perform_b180_r N _ hx3 _ hσ) (congr (congrArg (Machine_perform_b180 N) rfl) rfl)
  · exact zr_of (zMachine_perform_b174_r N _ hx3 _ hx4 _ hσ) (congr (congr (congrArg (Machine_perform_b174 N) rfl) rfl) rfl)
def zMachine_perform_b182 (N : Nat) (x4 : Int) (σ : z_S) : Option (Int × z_S) := if zin (63 + x4) then (zMachine_setCell N (63 + x4) 0 σ).bind fun q189 => (zMachine_goOnOrEnd N x4 0 q189.2).bind fun q196 => some (q196.1, q196.2) else none
theorem zMachine_perform_b182_r (N : Nat) (x4 : Int) (hx4 : zin x4) (σ : z_S) (hσ : zR σ) : zrel (zMachine_perform_b182 N x4 σ) (Machine_perform_b182 N (zI x4) (zo σ)) := by
  unfold zMachine_perform_b182 Machine_perform_b182
  refine zr_g (fun g1 => ?_)
  refine zr_bind (zr_of (zMachine_setCell_r N _ g1 _ (by decide) _ hσ) (congr (congr (congrArg (Machine_setCell N) (zI_add (zl_63) rfl)) (zl_0)) rfl)) (fun r189 s189σ hr189 hs189 => ?_)
  dsimp only
  refine zr_bind (zr_of (zMachine_goOnOrEnd_r N _ hx4 _ (by decide) _ hs189) (congr (congr (congrArg (Machine_goOnOrEnd N) rfl) (zl_0)) rfl)) (fun r196 s196σ hr196 hs196 => ?_)
  dsimp only
  exact zr_some rfl hr196 rfl hs196
def zMachine_perform_b200 (N : Nat) (x3 : Int) (x4 : Int) (σ : z_S) : Option (Int × z_S) := (zMachine_enterRepetition N x4 σ).bind fun q203 => some (x3, q203.2)
theorem zMachine_perform_b200_r (N : Nat) (x3 : Int) (hx3 : zin x3) (x4 : Int) (hx4 : zin x4) (σ : z_S) (hσ : zR σ) : zrel (zMachine_perform_b200 N x3 x4 σ) (Machine_perform_b200 N (zI x3) (zI x4) (zo σ)) := by
  unfold zMachine_perform_b200 Machine_perform_b200
  refine zr_bind (zr_of (zMachine_enterRepetition_r N _ hx4 _ hσ) (congr (congrArg (Machine_enterRepetition N) rfl) rfl)) (fun r203 s203σ hr203 hs203 => ?_)
  dsimp only
  exact zr_some rfl hx3 rfl hs203
def zMachine_perform_b208 (N : Nat) (x4 : Int) (σ : z_S) : Option (Int × z_S) := (zMachine_endRepetition N x4 σ).bind fun q211 => some (q211.1, q211.2)
theorem zMachine_perform_b208_r (N : Nat) (x4 : Int) (hx4 : zin x4) (σ : z_S) (hσ : zR σ) : zrel (zMachine_perform_b208 N x4 σ) (Machine_perform_b208 N (zI x4) (zo σ)) := by
  unfold zMachine_perform_b208 Machine_perform_b208
  refine zr_bind (zr_of (zMachine_endRepetition_r N _ hx4 _ hσ) (congr (congrArg (Machine_endRepetition N) rfl) rfl)) (fun r211 s211σ hr211 hs211 => ?_)
  dsimp only
  exact zr_some rfl hr211 rfl hs211
def zMachine_perform_b215 (N : Nat) (x3 : Int) (x4 : Int) (σ : z_S) : Option (Int × z_S) := if zin (42 + x4) then (zMachine_setCell N (42 + x4) (σ.1 24) σ).bind fun q225 => some (x3, q225.2) else none
theorem zMachine_perform_b215_r (N : Nat) (x3 : Int) (hx3 : zin x3) (x4 : Int) (hx4 : zin x4) (σ : z_S) (hσ : zR σ) : zrel (zMachine_perform_b215 N x3 x4 σ) (Machine_perform_b215 N (zI x3) (zI x4) (zo σ)) := by
  unfold zMachine_perform_b215 Machine_perform_b215
  refine zr_g (fun g1 => ?_)
  refine zr_bind (zr_of (zMachine_setCell_r N _ g1 _ (hσ.1 24) _ hσ) (congr (congr (congrArg (Machine_setCell N) (zI_add (zl_42) rfl)) (zo_fld rfl 24)) rfl)) (fun r225 s225σ hr225 hs225 => ?_)
  dsimp only
  exact zr_some rfl hx3 rfl hs225
def zMachine_perform_b230 (N : Nat) (x3 : Int) (x4 : Int) (σ : z_S) : Option (Int × z_S) := if zin (42 + x4) then (zRows_read N 18 (42 + x4) σ).bind fun q244 => if zin (0 + x4) then (zMachine_setCell N (0 + x4) q244.1 q244.2).bind fun q247 => if zin (21 + x4) then (zMachine_setCell N (21 + x4) (q247.2.1 24) q247.2).bind fun q260 => some (x3, q260.2) else none else none else none
theorem zMachine_perform_b230_r (N : Nat) (x3 : Int) (hx3 : zin x3) (x4 : Int) (hx4 : zin x4) (σ : z_S) (hσ : zR σ) : zrel (zMachine_perform_b230 N x3 x4 σ) (Machine_perform_b230 N (zI x3) (zI x4) (zo σ)) := by
  unfold zMachine_perform_b230 Machine_perform_b230
  refine zr_g (fun g1 => ?_)
  refine zr_bind (zr_of (zRows_read_r N 18 _ g1 _ hσ) (congr (congrArg (Rows_read N 18) (zI_add (zl_42) rfl)) rfl)) (fun r244 s244σ hr244 hs244 => ?_)
  dsimp only
  refine zr_g (fun g2 => ?_)
  refine zr_bind (zr_of (zMachine_setCell_r N _ g2 _ hr244 _ hs244) (congr (congr (congrArg (Machine_setCell N) (zI_add (zl_0) rfl)) rfl) rfl)) (fun r247 s247σ hr247 hs247 => ?_)
  dsimp only
  refine zr_g (fun g3 => ?_)
  refine zr_bind (zr_of (zMachine_setCell_r N _ g3 _ (hs247.1 24) _ hs247) (congr (congr (congrArg (Machine_setCell N) (zI_add (zl_21) rfl)) (zo_fld rfl 24)) rfl)) (fun r260 s260σ hr260 hs260 => ?_)
  dsimp only
  exact zr_some rfl hx3 rfl hs260
def zMachine_perform_b319 (N : Nat) (x3 : Int) (σ : z_S) : Option (Int × z_S) := some (x3, σ)
theorem zMachine_perform_b319_r (N : Nat) (x3 : Int) (hx3 : zin x3) (σ : z_S) (hσ : zR σ) : zrel (zMachine_perform_b319 N x3 σ) (Machine_perform_b319 N (zI x3) (zo σ)) := by
  unfold zMachine_perform_b319 Machine_perform_b319
  exact zr_some rfl hx3 rfl hσ
def zMachine_perform_b265 (N : Nat) (x1 : Int) (x2 : Int) (x3 : Int) (x4 : Int) (σ : z_S) : Option (Int × z_S) := (zMachine_beginLook N x2 x4 x1 σ).bind fun q270 => some (x3, q270.2)
theorem zMachine_perform_b265_r (N : Nat) (x1 : Int) (hx1 : zin x1) (x2 : Int) (hx2 : zin x2) (x3 : Int) (hx3 : zin x3) (x4 : Int) (hx4 : zin x4) (σ : z_S) (hσ : zR σ) : zrel (zMachine_perform_b265 N x1 x2 x3 x4 σ) (Machine_perform_b265 N (zI x1) (zI x2) (zI x3) (zI x4) (zo σ)) := by
  unfold zMachine_perform_b265 Machine_perform_b265
  refine zr_bind (zr_of (zMachine_beginLook_r N _ hx2 _ hx4 _ hx1 _ hσ) (congr (congr (congr (congrArg (Machine_beginLook N) rfl) rfl) rfl) rfl)) (fun r270 s270σ hr270 hs270 => ?_)
  dsimp only
  exact zr_some rfl hx3 rfl hs270
def zMachine_perform_b275 (N : Nat) (x3 : Int) (x4 : Int) (σ : z_S) : Option (Int × z_S) := (zRows_read N 23 x4 σ).bind fun q282 => (zRows_read N 24 x4 (zF q282.2 22 q282.1)).bind fun q295 => some (x3, (zF q295.2 24 q295.1))
theorem zMachine_perform_b275_r (N : Nat) (x3 : Int) (hx3 : zin x3) (x4 : Int) (hx4 : zin x4) (σ : z_S) (hσ : zR σ) : zrel (zMachine_perform_b275 N x3 x4 σ) (Machine_perform_b275 N (zI x3) (zI x4) (zo σ)) := by
  unfold zMachine_perform_b275 Machine_perform_b275
  refine zr_bind (zr_of (zRows_read_r N 23 _ hx4 _ hσ) (congr (congrArg (Rows_read N 23) rfl) rfl)) (fun r282 s282σ hr282 hs282 => ?_)
  dsimp only
  refine zr_bind (zr_of (zRows_read_r N 24 _ hx4 _ (zR_F (k := 22) hs282 hr282)) (congr (congrArg (Rows_read N 24) rfl) (zo_F (k := 22) rfl rfl))) (fun r295 s295σ hr295 hs295 => ?_)
  dsimp only
  exact zr_some rfl hx3 (zo_F (k := 24) rfl rfl) (zR_F (k := 24) hs295 hr295)
def zMachine_perform_b303 (N : Nat) (x4 : Int) (σ : z_S) : Option (Int × z_S) := (zRows_read N 23 x4 σ).bind fun q310 => some ((-2), (zF q310.2 22 q310.1))
theorem zMachine_perform_b303_r (N : Nat) (x4 : Int) (hx4 : zin x4) (σ : z_S) (hσ : zR σ) : zrel (zMachine_perform_b303 N x4 σ) (Machine_perform_b303 N (zI x4) (zo σ)) := by
  unfold zMachine_perform_b303 Machine_perform_b303
  refine zr_bind (zr_of (zRows_read_r N 23 _ hx4 _ hσ) (congr (congrArg (Rows_read N 23) rfl) rfl)) (fun r310 s310σ hr310 hs310 => ?_)
  dsimp only
  exact zr_some (zl_m2) (by decide) (zo_F (k := 22) rfl rfl) (zR_F (k := 22) hs310 hr310)
def zMachine_perform_b105 (N : Nat) (x1 : Int) (x2 : Int) (x3 : Int) (x4 : Int) (σ : z_S) : Option (Int × z_S) := if x2 = 11 then zMachine_perform_b168 N x3 x4 σ else if x2 = 12 then zMachine_perform_b182 N x4 σ else if x2 = 13 then zMachine_perform_b200 N x3 x4 σ else if x2 = 14 then zMachine_perform_b208 N x4 σ else if x2 = 15 then zMachine_perform_b215 N x3 x4 σ else if x2 = 16 then zMachine_perform_b230 N x3 x4 σ else if x2 = 17 then zMachine_perform_b319 N x3 σ else if x2 = 18 then zMachine_perform_b319 N x3 σ else if x2 = 19 then zMachine_perform_b265 N x1 x2 x3 x4 σ else if x2 = 20 then zMachine_perform_b275 N x3 x4 σ else if x2 = 21 then zMachine_perform_b265 N x1 x2 x3 x4 σ else if x2 = 22 then zMachine_perform_b303 N x4 σ else zMachine_perform_b319 N x3 σ
theorem zMachine_perform_b105_r (N : Nat) (x1 : Int) (hx1 : zin x1) (x2 : Int) (hx2 : zin x2) (x3 : Int) (hx3 : zin x3) (x4 : Int) (hx4 : zin x4) (σ : z_S) (hσ : zR σ) : zrel (zMachine_perform_b105 N x1 x2 x3 x4 σ) (Machine_perform_b105 N (zI x1) (zI x2) (zI x3) (zI x4) (zo σ)) := by
  unfold zMachine_perform_b105 Machine_perform_b105
  refine zr_ite (zI_eq rfl (zl_11) hx2 (by decide)) ?_ ?_
  · exact zr_of (zMachine_perform_b168_r N _ hx3 _ hx4 _ hσ) (congr (congr (congrArg (Machine_perform_b168 N) rfl) rfl) rfl)
  · refine zr_ite (zI_eq rfl (zl_12) hx2 (by decide)) ?_ ?_
    · exact zr_of (zMachine_perform_b182_r N _ hx4 _ hσ) (congr (congrArg (Machine_perform_b182 N) rfl) rfl)
    · refine zr_ite (zI_eq rfl (zl_13) hx2 (by decide)) ?_ ?_
      · exact zr_of (zMachine_perform_b200_r N _ hx3 _ hx4 _ hσ) (congr (congr (congrArg (Machine_perform_b200 N) rfl) rfl) rfl)
      · refine zr_ite (zI_eq rfl (zl_14) hx2 (by decide)) ?_ ?_
        · exact zr_of (zMachine_perform_b208_r N _ hx4 _ hσ) (congr (congrArg (Machine_perform_b208 N) rfl) rfl)
        · refine zr_ite (zI_eq rfl (zl_15) hx2 (by decide)) ?_ ?_
          · exact zr_of (zMachine_perform_b215_r N _ hx3 _ hx4 _ hσ) (congr (congr (congrArg (Machine_perform_b215 N) rfl) rfl) rfl)
          · refine zr_ite (zI_eq rfl (zl_16) hx2 (by decide)) ?_ ?_
            · exact zr_of (zMachine_perform_b230_r N _ hx3 _ hx4 _ hσ) (congr (congr (congrArg (Machine_perform_b230 N) rfl) rfl) rfl)
            · refine zr_ite (zI_eq rfl (zl_17) hx2 (by decide)) ?_ ?_
              · exact zr_of (zMachine_perform_b319_r N _ hx3 _ hσ) (congr (congrArg (Machine_perform_b319 N) rfl) rfl)
              · refine zr_ite (zI_eq rfl (zl_18) hx2 (by decide)) ?_ ?_
                · exact zr_of (zMachine_perform_b319_r N _ hx3 _ hσ) (congr (congrArg (Machine_perform_b319 N) rfl) rfl)
                · refine zr_ite (zI_eq rfl (zl_19) hx2 (by decide)) ?_ ?_
                  · exact zr_of (zMachine_perform_b265_r N _ hx1 _ hx2 _ hx3 _ hx4 _ hσ) (congr (congr (congr (congr (congrArg (Machine_perform_b265 N) rfl) rfl) rfl) rfl) rfl)
                  · refine zr_ite (zI_eq rfl (zl_20) hx2 (by decide)) ?_ ?_
                    · exact zr_of (zMachine_perform_b275_r N _ hx3 _ hx4 _ hσ) (congr (congr (congrArg (Machine_perform_b275 N) rfl) rfl) rfl)
                    · refine zr_ite (zI_eq rfl (zl_21) hx2 (by decide)) ?_ ?_
                      · exact zr_of (zMachine_perform_b265_r N _ hx1 _ hx2 _ hx3 _ hx4 _ hσ) (congr (congr (congr (congr (congrArg (Machine_perform_b265 N) rfl) rfl) rfl) rfl) rfl)
                      · refine zr_ite (zI_eq rfl (zl_22) hx2 (by decide)) ?_ ?_
                        · exact zr_of (zMachine_perform_b303_r N _ hx4 _ hσ) (congr (congrArg (Machine_perform_b303 N) rfl) rfl)
                        · exact zr_of (zMachine_perform_b319_r N _ hx3 _ hσ) (congr (congrArg (Machine_perform_b319 N) rfl) rfl)
def zMachine_perform_b104 (N : Nat) (s0 : Int) (σ : z_S) : Option (Int × z_S) := some (s0, σ)
theorem zMachine_perform_b104_r (N : Nat) (s0 : Int) (hs0 : zin s0) (σ : z_S) (hσ : zR σ) : zrel (zMachine_perform_b104 N s0 σ) (Machine_perform_b104 N (zI s0) (zo σ)) := by
  unfold zMachine_perform_b104 Machine_perform_b104
  exact zr_some rfl hs0 rfl hσ
def zMachine_perform_b102 (N : Nat) (σ : z_S) : Option (Int × z_S) := zMachine_perform_b104 N (-2) σ
theorem zMachine_perform_b102_r (N : Nat) (σ : z_S) (hσ : zR σ) : zrel (zMachine_perform_b102 N σ) (Machine_perform_b102 N (zo σ)) := by
  unfold zMachine_perform_b102 Machine_perform_b102
  exact zr_of (zMachine_perform_b104_r N _ (by decide) _ hσ) (congr (congrArg (Machine_perform_b104 N) (zl_m2)) rfl)
def zMachine_perform_b98 (N : Nat) (x3 : Int) (σ : z_S) : Option (Int × z_S) := zMachine_perform_b104 N x3 σ
theorem zMachine_perform_b98_r (N : Nat) (x3 : Int) (hx3 : zin x3) (σ : z_S) (hσ : zR σ) : zrel (zMachine_perform_b98 N x3 σ) (Machine_perform_b98 N (zI x3) (zo σ)) := by
  unfold zMachine_perform_b98 Machine_perform_b98
  exact zr_of (zMachine_perform_b104_r N _ hx3 _ hσ) (congr (congrArg (Machine_perform_b104 N) rfl) rfl)
def zMachine_perform_b88 (N : Nat) (x2 : Int) (x3 : Int) (x4 : Int) (σ : z_S) : Option (Int × z_S) := (zMachine_passes N x2 x4 σ).bind fun q92 => if q92.1 = 0 then zMachine_perform_b102 N q92.2 else zMachine_perform_b98 N x3 q92.2
theorem zMachine_perform_b88_r (N : Nat) (x2 : Int) (hx2 : zin x2) (x3 : Int) (hx3 : zin x3) (x4 : Int) (hx4 : zin x4) (σ : z_S) (hσ : zR σ) : zrel (zMachine_perform_b88 N x2 x3 x4 σ) (Machine_perform_b88 N (zI x2) (zI x3) (zI x4) (zo σ)) := by
  unfold zMachine_perform_b88 Machine_perform_b88
  refine zr_bind (zr_of (zMachine_passes_r N _ hx2 _ hx4 _ hσ) (congr (congr (congrArg (Machine_passes N) rfl) rfl) rfl)) (fun r92 s92σ hr92 hs92 => ?_)
  dsimp only
  refine zr_ite (zI_eq rfl (zl_0) hr92 (by decide)) ?_ ?_
  · exact zr_of (zMachine_perform_b102_r N  _ hs92) (congrArg (Machine_perform_b102 N) rfl)
  · exact zr_of (zMachine_perform_b98_r N _ hx3 _ hs92) (congr (congrArg (Machine_perform_b98 N) rfl) rfl)
def zMachine_perform_b82 (N : Nat) (x1 : Int) (x2 : Int) (x3 : Int) (x4 : Int) (σ : z_S) : Option (Int × z_S) := if (10 : Int) < x2 then zMachine_perform_b105 N x1 x2 x3 x4 σ else zMachine_perform_b88 N x2 x3 x4 σ
theorem zMachine_perform_b82_r (N : Nat) (x1 : Int) (hx1 : zin x1) (x2 : Int) (hx2 : zin x2) (x3 : Int) (hx3 : zin x3) (x4 : Int) (hx4 : zin x4) (σ : z_S) (hσ : zR σ) : zrel (zMachine_perform_b82 N x1 x2 x3 x4 σ) (Machine_perform_b82 N (zI x1) (zI x2) (zI x3) (zI x4) (zo σ)) := by
  unfold zMachine_perform_b82 Machine_perform_b82
  refine zr_ite (zI_lt (zl_10) rfl (by decide) hx2) ?_ ?_
  · exact zr_of (zMachine_perform_b105_r N _ hx1 _ hx2 _ hx3 _ hx4 _ hσ) (congr (congr (congr (congr (congrArg (Machine_perform_b105 N) rfl) rfl) rfl) rfl) rfl)
  · exact zr_of (zMachine_perform_b88_r N _ hx2 _ hx3 _ hx4 _ hσ) (congr (congr (congr (congrArg (Machine_perform_b88 N) rfl) rfl) rfl) rfl)
def zMachine_perform_b81 (N : Nat) (s0 : Int) (σ : z_S) : Option (Int × z_S) := some (s0, σ)
theorem zMachine_perform_b81_r (N : Nat) (s0 : Int) (hs0 : zin s0) (σ : z_S) (hσ : zR σ) : zrel (zMachine_perform_b81 N s0 σ) (Machine_perform_b81 N (zI s0) (zo σ)) := by
  unfold zMachine_perform_b81 Machine_perform_b81
  exact zr_some rfl hs0 rfl hσ
def zMachine_perform_b79 (N : Nat) (σ : z_S) : Option (Int × z_S) := zMachine_perform_b81 N (-2) σ
theorem zMachine_perform_b79_r (N : Nat) (σ : z_S) (hσ : zR σ) : zrel (zMachine_perform_b79 N σ) (Machine_perform_b79 N (zo σ)) := by
  unfold zMachine_perform_b79 Machine_perform_b79
  exact zr_of (zMachine_perform_b81_r N _ (by decide) _ hσ) (congr (congrArg (Machine_perform_b81 N) (zl_m2)) rfl)
def zMachine_perform_b75 (N : Nat) (x3 : Int) (σ : z_S) : Option (Int × z_S) := zMachine_perform_b81 N x3 σ
theorem zMachine_perform_b75_r (N : Nat) (x3 : Int) (hx3 : zin x3) (σ : z_S) (hσ : zR σ) : zrel (zMachine_perform_b75 N x3 σ) (Machine_perform_b75 N (zI x3) (zo σ)) := by
  unfold zMachine_perform_b75 Machine_perform_b75
  exact zr_of (zMachine_perform_b81_r N _ hx3 _ hσ) (congr (congrArg (Machine_perform_b81 N) rfl) rfl)
def zMachine_perform_b64 (N : Nat) (x1 : Int) (x2 : Int) (x3 : Int) (x4 : Int) (σ : z_S) : Option (Int × z_S) := (zMachine_takesUnit N x2 x4 x1 σ).bind fun q69 => if q69.1 = 0 then zMachine_perform_b79 N q69.2 else zMachine_perform_b75 N x3 q69.2
theorem zMachine_perform_b64_r (N : Nat) (x1 : Int) (hx1 : zin x1) (x2 : Int) (hx2 : zin x2) (x3 : Int) (hx3 : zin x3) (x4 : Int) (hx4 : zin x4) (σ : z_S) (hσ : zR σ) : zrel (zMachine_perform_b64 N x1 x2 x3 x4 σ) (Machine_perform_b64 N (zI x1) (zI x2) (zI x3) (zI x4) (zo σ)) := by
  unfold zMachine_perform_b64 Machine_perform_b64
  refine zr_bind (zr_of (zMachine_takesUnit_r N _ hx2 _ hx4 _ hx1 _ hσ) (congr (congr (congr (congrArg (Machine_takesUnit N) rfl) rfl) rfl) rfl)) (fun r69 s69σ hr69 hs69 => ?_)
  dsimp only
  refine zr_ite (zI_eq rfl (zl_0) hr69 (by decide)) ?_ ?_
  · exact zr_of (zMachine_perform_b79_r N  _ hs69) (congrArg (Machine_perform_b79 N) rfl)
  · exact zr_of (zMachine_perform_b75_r N _ hx3 _ hs69) (congr (congrArg (Machine_perform_b75 N) rfl) rfl)
def zMachine_perform_b59 (N : Nat) (x1 : Int) (x2 : Int) (x3 : Int) (x4 : Int) (σ : z_S) : Option (Int × z_S) := if (5 : Int) < x2 then zMachine_perform_b82 N x1 x2 x3 x4 σ else zMachine_perform_b64 N x1 x2 x3 x4 σ
theorem zMachine_perform_b59_r (N : Nat) (x1 : Int) (hx1 : zin x1) (x2 : Int) (hx2 : zin x2) (x3 : Int) (hx3 : zin x3) (x4 : Int) (hx4 : zin x4) (σ : z_S) (hσ : zR σ) : zrel (zMachine_perform_b59 N x1 x2 x3 x4 σ) (Machine_perform_b59 N (zI x1) (zI x2) (zI x3) (zI x4) (zo σ)) := by
  unfold zMachine_perform_b59 Machine_perform_b59
  refine zr_ite (zI_lt (zl_5) rfl (by decide) hx2) ?_ ?_
  · exact zr_of (zMachine_perform_b82_r N _ hx1 _ hx2 _ hx3 _ hx4 _ hσ) (congr (congr (congr (congr (congrArg (Machine_perform_b82 N) rfl) rfl) rfl) rfl) rfl)
  · exact zr_of (zMachine_perform_b64_r N _ hx1 _ hx2 _ hx3 _ hx4 _ hσ) (congr (congr (congr (congr (congrArg (Machine_perform_b64 N) rfl) rfl) rfl) rfl) rfl)
def zMachine_perform_b56 (N : Nat) (σ : z_S) : Option (Int × z_S) := some ((-3), σ)
theorem zMachine_perform_b56_r (N : Nat) (σ : z_S) (hσ : zR σ) : zrel (zMachine_perform_b56 N σ) (Machine_perform_b56 N (zo σ)) := by
  unfold zMachine_perform_b56 Machine_perform_b56
  exact zr_some (zl_m3) (by decide) rfl hσ
def zMachine_perform_b49 (N : Nat) (x1 : Int) (x2 : Int) (x3 : Int) (x4 : Int) (σ : z_S) : Option (Int × z_S) := (zMachine_takesStep N σ).bind fun q50 => if q50.1 = 0 then zMachine_perform_b56 N q50.2 else zMachine_perform_b59 N x1 x2 x3 x4 q50.2
theorem zMachine_perform_b49_r (N : Nat) (x1 : Int) (hx1 : zin x1) (x2 : Int) (hx2 : zin x2) (x3 : Int) (hx3 : zin x3) (x4 : Int) (hx4 : zin x4) (σ : z_S) (hσ : zR σ) : zrel (zMachine_perform_b49 N x1 x2 x3 x4 σ) (Machine_perform_b49 N (zI x1) (zI x2) (zI x3) (zI x4) (zo σ)) := by
  unfold zMachine_perform_b49 Machine_perform_b49
  refine zr_bind (zr_of (zMachine_takesStep_r N  _ hσ) (congrArg (Machine_takesStep N) rfl)) (fun r50 s50σ hr50 hs50 => ?_)
  dsimp only
  refine zr_ite (zI_eq rfl (zl_0) hr50 (by decide)) ?_ ?_
  · exact zr_of (zMachine_perform_b56_r N  _ hs50) (congrArg (Machine_perform_b56 N) rfl)
  · exact zr_of (zMachine_perform_b59_r N _ hx1 _ hx2 _ hx3 _ hx4 _ hs50) (congr (congr (congr (congr (congrArg (Machine_perform_b59 N) rfl) rfl) rfl) rfl) rfl)
def zMachine_perform_b43 (N : Nat) (x1 : Int) (x2 : Int) (x3 : Int) (x4 : Int) (σ : z_S) : Option (Int × z_S) := if (12 : Int) < x2 then zMachine_perform_b59 N x1 x2 x3 x4 σ else zMachine_perform_b49 N x1 x2 x3 x4 σ
theorem zMachine_perform_b43_r (N : Nat) (x1 : Int) (hx1 : zin x1) (x2 : Int) (hx2 : zin x2) (x3 : Int) (hx3 : zin x3) (x4 : Int) (hx4 : zin x4) (σ : z_S) (hσ : zR σ) : zrel (zMachine_perform_b43 N x1 x2 x3 x4 σ) (Machine_perform_b43 N (zI x1) (zI x2) (zI x3) (zI x4) (zo σ)) := by
  unfold zMachine_perform_b43 Machine_perform_b43
  refine zr_ite (zI_lt (zl_12) rfl (by decide) hx2) ?_ ?_
  · exact zr_of (zMachine_perform_b59_r N _ hx1 _ hx2 _ hx3 _ hx4 _ hσ) (congr (congr (congr (congr (congrArg (Machine_perform_b59 N) rfl) rfl) rfl) rfl) rfl)
  · exact zr_of (zMachine_perform_b49_r N _ hx1 _ hx2 _ hx3 _ hx4 _ hσ) (congr (congr (congr (congr (congrArg (Machine_perform_b49 N) rfl) rfl) rfl) rfl) rfl)
def zMachine_perform_b41 (N : Nat) (σ : z_S) : Option (Int × z_S) := some ((-1), σ)
theorem zMachine_perform_b41_r (N : Nat) (σ : z_S) (hσ : zR σ) : zrel (zMachine_perform_b41 N σ) (Machine_perform_b41 N (zo σ)) := by
  unfold zMachine_perform_b41 Machine_perform_b41
  exact zr_some (zl_m1) (by decide) rfl hσ
def zMachine_perform_b0 (N : Nat) (x1 : Int) (σ : z_S) : Option (Int × z_S) := (zRows_read N 1 x1 σ).bind fun q8 => (zRows_read N 2 x1 q8.2).bind fun q20 => (zRows_read N 3 x1 q20.2).bind fun q32 => if q8.1 = 0 then zMachine_perform_b41 N q32.2 else zMachine_perform_b43 N x1 q8.1 q20.1 q32.1 q32.2
theorem zMachine_perform_b0_r (N : Nat) (x1 : Int) (hx1 : zin x1) (σ : z_S) (hσ : zR σ) : zrel (zMachine_perform_b0 N x1 σ) (Machine_perform_b0 N (zI x1) (zo σ)) := by
  unfold zMachine_perform_b0 Machine_perform_b0
  refine zr_bind (zr_of (zRows_read_r N 1 _ hx1 _ hσ) (congr (congrArg (Rows_read N 1) rfl) rfl)) (fun r8 s8σ hr8 hs8 => ?_)
  dsimp only
  refine zr_bind (zr_of (zRows_read_r N 2 _ hx1 _ hs8) (congr (congrArg (Rows_read N 2) rfl) rfl)) (fun r20 s20σ hr20 hs20 => ?_)
  dsimp only
  refine zr_bind (zr_of (zRows_read_r N 3 _ hx1 _ hs20) (congr (congrArg (Rows_read N 3) rfl) rfl)) (fun r32 s32σ hr32 hs32 => ?_)
  dsimp only
  refine zr_ite (zI_eq rfl (zl_0) hr8 (by decide)) ?_ ?_
  · exact zr_of (zMachine_perform_b41_r N  _ hs32) (congrArg (Machine_perform_b41 N) rfl)
  · exact zr_of (zMachine_perform_b43_r N _ hx1 _ hr8 _ hr20 _ hr32 _ hs32) (congr (congr (congr (congr (congrArg (Machine_perform_b43 N) rfl) rfl) rfl) rfl) rfl)
def zMachine_perform (N : Nat) (x1 : Int) (σ : z_S) : Option (Int × z_S) := zMachine_perform_b0 N x1 σ
theorem zMachine_perform_r (N : Nat) (x1 : Int) (hx1 : zin x1) (σ : z_S) (hσ : zR σ) : zrel (zMachine_perform N x1 σ) (Machine_perform N (zI x1) (zo σ)) := by
  unfold zMachine_perform Machine_perform
  exact zr_of (zMachine_perform_b0_r N _ hx1 _ hσ) (congr (congrArg (Machine_perform_b0 N) rfl) rfl)
