def zMod_round_b126 (N : Nat) (s0 : Int) (σ : z_S) : Option (Int × z_S) := some (s0, σ)
theorem zMod_round_b126_r (N : Nat) (s0 : Int) (hs0 : zin s0) (σ : z_S) (hσ : zR σ) : zrel (zMod_round_b126 N s0 σ) (Mod_round_b126 N (zI s0) (zo σ)) := by
  unfold zMod_round_b126 Mod_round_b126
  exact zr_some rfl hs0 rfl hσ
def zMod_round_b125 (N : Nat) (x3 : Int) (σ : z_S) : Option (Int × z_S) := zMod_round_b126 N x3 σ
theorem zMod_round_b125_r (N : Nat) (x3 : Int) (hx3 : zin x3) (σ : z_S) (hσ : zR σ) : zrel (zMod_round_b125 N x3 σ) (Mod_round_b125 N (zI x3) (zo σ)) := by
  unfold zMod_round_b125 Mod_round_b125
  exact zr_of (zMod_round_b126_r N _ hx3 _ hσ) (congr (congrArg (Mod_round_b126 N) rfl) rfl)
def zMod_round_b116 (N : Nat) (x1 : Int) (σ : z_S) : Option (Int × z_S) := if zIn x1 90000 then zMod_round_b126 N (σ.2 20 (x1).toNat) σ else none
theorem zMod_round_b116_r (N : Nat) (x1 : Int) (hx1 : zin x1) (σ : z_S) (hσ : zR σ) : zrel (zMod_round_b116 N x1 σ) (Mod_round_b116 N (zI x1) (zo σ)) := by
  unfold zMod_round_b116 Mod_round_b116
  refine zr_gg (zg_in rfl hx1) (fun g1 => ?_)
  exact zr_of (zMod_round_b126_r N _ (hσ.2 20 _) _ hσ) (congr (congrArg (Mod_round_b126 N) (zo_get (j := 20) rfl rfl hx1)) rfl)
def zMod_round_b103 (N : Nat) (x1 : Int) (x3 : Int) (x4 : Int) (s1 : Int) (σ : z_S) : Option (Int × z_S) := (zMod_push N s1 (σ.1 11) 0 σ).bind fun q108 => if x4 = 0 then zMod_round_b125 N x3 q108.2 else zMod_round_b116 N x1 q108.2
theorem zMod_round_b103_r (N : Nat) (x1 : Int) (hx1 : zin x1) (x3 : Int) (hx3 : zin x3) (x4 : Int) (hx4 : zin x4) (s1 : Int) (hs1 : zin s1) (σ : z_S) (hσ : zR σ) : zrel (zMod_round_b103 N x1 x3 x4 s1 σ) (Mod_round_b103 N (zI x1) (zI x3) (zI x4) (zI s1) (zo σ)) := by
  unfold zMod_round_b103 Mod_round_b103
  refine zr_bind (zr_of (zMod_push_r N _ hs1 _ (hσ.1 11) _ (by decide) _ hσ) (congr (congr (congr (congrArg (Mod_push N) rfl) (zo_fld rfl 11)) (zl_0)) rfl)) (fun r108 s108σ hr108 hs108 => ?_)
  dsimp only
  refine zr_ite (zI_eq rfl (zl_0) hx4 (by decide)) ?_ ?_
  · exact zr_of (zMod_round_b125_r N _ hx3 _ hs108) (congr (congrArg (Mod_round_b125 N) rfl) rfl)
  · exact zr_of (zMod_round_b116_r N _ hx1 _ hs108) (congr (congrArg (Mod_round_b116 N) rfl) rfl)
def zMod_round_b97 (N : Nat) (x1 : Int) (x3 : Int) (x4 : Int) (σ : z_S) : Option (Int × z_S) := if zIn x1 90000 then zMod_round_b103 N x1 x3 x4 (σ.2 20 (x1).toNat) σ else none
theorem zMod_round_b97_r (N : Nat) (x1 : Int) (hx1 : zin x1) (x3 : Int) (hx3 : zin x3) (x4 : Int) (hx4 : zin x4) (σ : z_S) (hσ : zR σ) : zrel (zMod_round_b97 N x1 x3 x4 σ) (Mod_round_b97 N (zI x1) (zI x3) (zI x4) (zo σ)) := by
  unfold zMod_round_b97 Mod_round_b97
  refine zr_gg (zg_in rfl hx1) (fun g1 => ?_)
  exact zr_of (zMod_round_b103_r N _ hx1 _ hx3 _ hx4 _ (hσ.2 20 _) _ hσ) (congr (congr (congr (congr (congrArg (Mod_round_b103 N) rfl) rfl) rfl) (zo_get (j := 20) rfl rfl hx1)) rfl)
def zMod_round_b93 (N : Nat) (x1 : Int) (x3 : Int) (x4 : Int) (σ : z_S) : Option (Int × z_S) := zMod_round_b103 N x1 x3 x4 x3 σ
theorem zMod_round_b93_r (N : Nat) (x1 : Int) (hx1 : zin x1) (x3 : Int) (hx3 : zin x3) (x4 : Int) (hx4 : zin x4) (σ : z_S) (hσ : zR σ) : zrel (zMod_round_b93 N x1 x3 x4 σ) (Mod_round_b93 N (zI x1) (zI x3) (zI x4) (zo σ)) := by
  unfold zMod_round_b93 Mod_round_b93
  exact zr_of (zMod_round_b103_r N _ hx1 _ hx3 _ hx4 _ hx3 _ hσ) (congr (congr (congr (congr (congrArg (Mod_round_b103 N) rfl) rfl) rfl) rfl) rfl)
def zMod_round_b85 (N : Nat) (x1 : Int) (x3 : Int) (s0 : Int) (σ : z_S) : Option (Int × z_S) := if s0 = 0 then zMod_round_b97 N x1 x3 s0 σ else zMod_round_b93 N x1 x3 s0 σ
theorem zMod_round_b85_r (N : Nat) (x1 : Int) (hx1 : zin x1) (x3 : Int) (hx3 : zin x3) (s0 : Int) (hs0 : zin s0) (σ : z_S) (hσ : zR σ) : zrel (zMod_round_b85 N x1 x3 s0 σ) (Mod_round_b85 N (zI x1) (zI x3) (zI s0) (zo σ)) := by
  unfold zMod_round_b85 Mod_round_b85
  refine zr_ite (zI_eq rfl (zl_0) hs0 (by decide)) ?_ ?_
  · exact zr_of (zMod_round_b97_r N _ hx1 _ hx3 _ hs0 _ hσ) (congr (congr (congr (congrArg (Mod_round_b97 N) rfl) rfl) rfl) rfl)
  · exact zr_of (zMod_round_b93_r N _ hx1 _ hx3 _ hs0 _ hσ) (congr (congr (congr (congrArg (Mod_round_b93 N) rfl) rfl) rfl) rfl)
def zMod_round_b84 (N : Nat) (x1 : Int) (x3 : Int) (σ : z_S) : Option (Int × z_S) := zMod_round_b85 N x1 x3 0 σ
theorem zMod_round_b84_r (N : Nat) (x1 : Int) (hx1 : zin x1) (x3 : Int) (hx3 : zin x3) (σ : z_S) (hσ : zR σ) : zrel (zMod_round_b84 N x1 x3 σ) (Mod_round_b84 N (zI x1) (zI x3) (zo σ)) := by
  unfold zMod_round_b84 Mod_round_b84
  exact zr_of (zMod_round_b85_r N _ hx1 _ hx3 _ (by decide) _ hσ) (congr (congr (congr (congrArg (Mod_round_b85 N) rfl) rfl) (zl_0)) rfl)
def zMod_round_b80 (N : Nat) (x1 : Int) (x3 : Int) (σ : z_S) : Option (Int × z_S) := zMod_round_b85 N x1 x3 1 σ
theorem zMod_round_b80_r (N : Nat) (x1 : Int) (hx1 : zin x1) (x3 : Int) (hx3 : zin x3) (σ : z_S) (hσ : zR σ) : zrel (zMod_round_b80 N x1 x3 σ) (Mod_round_b80 N (zI x1) (zI x3) (zo σ)) := by
  unfold zMod_round_b80 Mod_round_b80
  exact zr_of (zMod_round_b85_r N _ hx1 _ hx3 _ (by decide) _ hσ) (congr (congr (congr (congrArg (Mod_round_b85 N) rfl) rfl) (zl_1)) rfl)
def zMod_round_b70 (N : Nat) (x1 : Int) (x2 : Int) (x3 : Int) (σ : z_S) : Option (Int × z_S) := if zIn x2 1300 then if (σ.2 6 (x2).toNat) = 1 then zMod_round_b80 N x1 x3 σ else zMod_round_b84 N x1 x3 σ else none
theorem zMod_round_b70_r (N : Nat) (x1 : Int) (hx1 : zin x1) (x2 : Int) (hx2 : zin x2) (x3 : Int) (hx3 : zin x3) (σ : z_S) (hσ : zR σ) : zrel (zMod_round_b70 N x1 x2 x3 σ) (Mod_round_b70 N (zI x1) (zI x2) (zI x3) (zo σ)) := by
  unfold zMod_round_b70 Mod_round_b70
  refine zr_gg (zg_in rfl hx2) (fun g1 => ?_)
  refine zr_ite (zI_eq (zo_get (j := 6) rfl rfl hx2) (zl_1) (hσ.2 6 _) (by decide)) ?_ ?_
  · exact zr_of (zMod_round_b80_r N _ hx1 _ hx3 _ hσ) (congr (congr (congrArg (Mod_round_b80 N) rfl) rfl) rfl)
  · exact zr_of (zMod_round_b84_r N _ hx1 _ hx3 _ hσ) (congr (congr (congrArg (Mod_round_b84 N) rfl) rfl) rfl)
def zMod_round_b68 (N : Nat) (x3 : Int) (σ : z_S) : Option (Int × z_S) := some (x3, σ)
theorem zMod_round_b68_r (N : Nat) (x3 : Int) (hx3 : zin x3) (σ : z_S) (hσ : zR σ) : zrel (zMod_round_b68 N x3 σ) (Mod_round_b68 N (zI x3) (zo σ)) := by
  unfold zMod_round_b68 Mod_round_b68
  exact zr_some rfl hx3 rfl hσ
def zMod_round_b33 (N : Nat) (x1 : Int) (x2 : Int) (σ : z_S) : Option (Int × z_S) := if zIn x1 90000 then (zMod_row N 5 x2 (σ.2 20 (x1).toNat) (σ.2 21 (x1).toNat) (σ.2 22 (x1).toNat) 0 σ).bind fun q55 => if (q55.2.2 21 (x1).toNat) ≤ 0 then zMod_round_b70 N x1 x2 q55.1 q55.2 else zMod_round_b68 N q55.1 q55.2 else none
theorem zMod_round_b33_r (N : Nat) (x1 : Int) (hx1 : zin x1) (x2 : Int) (hx2 : zin x2) (σ : z_S) (hσ : zR σ) : zrel (zMod_round_b33 N x1 x2 σ) (Mod_round_b33 N (zI x1) (zI x2) (zo σ)) := by
  unfold zMod_round_b33 Mod_round_b33
  refine zr_gg (zg_in rfl hx1) (fun g1 => ?_)
  refine zr_bind (zr_of (zMod_row_r N _ (by decide) _ hx2 _ (hσ.2 20 _) _ (hσ.2 21 _) _ (hσ.2 22 _) _ (by decide) _ hσ) (congr (congr (congr (congr (congr (congr (congrArg (Mod_row N) (zl_5)) rfl) (zo_get (j := 20) rfl rfl hx1)) (zo_get (j := 21) rfl rfl hx1)) (zo_get (j := 22) rfl rfl hx1)) (zl_0)) rfl)) (fun r55 s55σ hr55 hs55 => ?_)
  dsimp only
  refine zr_ite (zI_le (zo_get (j := 21) rfl rfl hx1) (zl_0) (hs55.2 21 _) (by decide)) ?_ ?_
  · exact zr_of (zMod_round_b70_r N _ hx1 _ hx2 _ hr55 _ hs55) (congr (congr (congr (congrArg (Mod_round_b70 N) rfl) rfl) rfl) rfl)
  · exact zr_of (zMod_round_b68_r N _ hr55 _ hs55) (congr (congrArg (Mod_round_b68 N) rfl) rfl)
def zMod_round_b26 (N : Nat) (x1 : Int) (σ : z_S) : Option (Int × z_S) := if zIn x1 90000 then some ((σ.2 20 (x1).toNat), σ) else none
theorem zMod_round_b26_r (N : Nat) (x1 : Int) (hx1 : zin x1) (σ : z_S) (hσ : zR σ) : zrel (zMod_round_b26 N x1 σ) (Mod_round_b26 N (zI x1) (zo σ)) := by
  unfold zMod_round_b26 Mod_round_b26
  refine zr_gg (zg_in rfl hx1) (fun g1 => ?_)
  exact zr_some (zo_get (j := 20) rfl rfl hx1) (hσ.2 20 _) rfl hσ
def zMod_round_b17 (N : Nat) (x1 : Int) (x2 : Int) (σ : z_S) : Option (Int × z_S) := if zIn x1 90000 then if (σ.2 22 (x1).toNat) = 0 then zMod_round_b26 N x1 σ else zMod_round_b33 N x1 x2 σ else none
theorem zMod_round_b17_r (N : Nat) (x1 : Int) (hx1 : zin x1) (x2 : Int) (hx2 : zin x2) (σ : z_S) (hσ : zR σ) : zrel (zMod_round_b17 N x1 x2 σ) (Mod_round_b17 N (zI x1) (zI x2) (zo σ)) := by
  unfold zMod_round_b17 Mod_round_b17
  refine zr_gg (zg_in rfl hx1) (fun g1 => ?_)
  refine zr_ite (zI_eq (zo_get (j := 22) rfl rfl hx1) (zl_0) (hσ.2 22 _) (by decide)) ?_ ?_
  · exact zr_of (zMod_round_b26_r N _ hx1 _ hσ) (congr (congrArg (Mod_round_b26 N) rfl) rfl)
  · exact zr_of (zMod_round_b33_r N _ hx1 _ hx2 _ hσ) (congr (congr (congrArg (Mod_round_b33 N) rfl) rfl) rfl)
def zMod_round_b14 (N : Nat) (σ : z_S) : Option (Int × z_S) := some ((-2), σ)
theorem zMod_round_b14_r (N : Nat) (σ : z_S) (hσ : zR σ) : zrel (zMod_round_b14 N σ) (Mod_round_b14 N (zo σ)) := by
  unfold zMod_round_b14 Mod_round_b14
  exact zr_some (zl_m2) (by decide) rfl hσ
def zMod_round_b0 (N : Nat) (x1 : Int) (σ : z_S) : Option (Int × z_S) := if zIn x1 90000 then (zMod_spends N σ).bind fun q8 => if q8.1 = 0 then zMod_round_b14 N q8.2 else zMod_round_b17 N x1 (σ.2 19 (x1).toNat) q8.2 else none
theorem zMod_round_b0_r (N : Nat) (x1 : Int) (hx1 : zin x1) (σ : z_S) (hσ : zR σ) : zrel (zMod_round_b0 N x1 σ) (Mod_round_b0 N (zI x1) (zo σ)) := by
  unfold zMod_round_b0 Mod_round_b0
  refine zr_gg (zg_in rfl hx1) (fun g1 => ?_)
  refine zr_bind (zr_of (zMod_spends_r N  _ hσ) (congrArg (Mod_spends N) rfl)) (fun r8 s8σ hr8 hs8 => ?_)
  dsimp only
  refine zr_ite (zI_eq rfl (zl_0) hr8 (by decide)) ?_ ?_
  · exact zr_of (zMod_round_b14_r N  _ hs8) (congrArg (Mod_round_b14 N) rfl)
  · exact zr_of (zMod_round_b17_r N _ hx1 _ (hσ.2 19 _) _ hs8) (congr (congr (congrArg (Mod_round_b17 N) rfl) (zo_get (j := 19) rfl rfl hx1)) rfl)
def zMod_round (N : Nat) (x1 : Int) (σ : z_S) : Option (Int × z_S) := zMod_round_b0 N x1 σ
theorem zMod_round_r (N : Nat) (x1 : Int) (hx1 : zin x1) (σ : z_S) (hσ : zR σ) : zrel (zMod_round N x1 σ) (Mod_round N (zI x1) (zo σ)) := by
  unfold zMod_round Mod_round
  exact zr_of (zMod_round_b0_r N _ hx1 _ hσ) (congr (congrArg (Mod_round_b0 N) rfl) rfl)
def zMod_endRound_b83 (N : Nat) (s1 : Int) (s2 : Int) (s3 : Int) (s4 : Int) (s5 : Int) (σ : z_S) : Option (Int × z_S) := (zMod_row N s1 s2 s3 s4 s5 0 σ).bind fun q84 => some (q84.1, q84.2)
theorem zMod_endRound_b83_r (N : Nat) (s1 : Int) (hs1 : zin s1) (s2 : Int) (hs2 : zin s2) (s3 : Int) (hs3 : zin s3) (s4 : Int) (hs4 : zin s4) (s5 : Int) (hs5 : zin s5) (σ : z_S) (hσ : zR σ) : zrel (zMod_endRound_b83 N s1 s2 s3 s4 s5 σ) (Mod_endRound_b83 N (zI s1) (zI s2) (zI s3) (zI s4) (zI s5) (zo σ)) := by
  unfold zMod_endRound_b83 Mod_endRound_b83
  refine zr_bind (zr_of (zMod_row_r N _ hs1 _ hs2 _ hs3 _ hs4 _ hs5 _ (by decide) _ hσ) (congr (congr (congr (congr (congr (congr (congrArg (Mod_row N) rfl) rfl) rfl) rfl) rfl) (zl_0)) rfl)) (fun r84 s84σ hr84 hs84 => ?_)
  dsimp only
  exact zr_some rfl hr84 rfl hs84
def zMod_endRound_b75 (N : Nat) (x1 : Int) (s1 : Int) (s2 : Int) (s3 : Int) (s4 : Int) (σ : z_S) : Option (Int × z_S) := if zIn x1 90000 then if zin ((σ.2 22 (x1).toNat) - 1) then zMod_endRound_b83 N s1 s2 s3 s4 ((σ.2 22 (x1).toNat) - 1) σ else none else none
theorem zMod_endRound_b75_r (N : Nat) (x1 : Int) (hx1 : zin x1) (s1 : Int) (hs1 : zin s1) (s2 : Int) (hs2 : zin s2) (s3 : Int) (hs3 : zin s3) (s4 : Int) (hs4 : zin s4) (σ : z_S) (hσ : zR σ) : zrel (zMod_endRound_b75 N x1 s1 s2 s3 s4 σ) (Mod_endRound_b75 N (zI x1) (zI s1) (zI s2) (zI s3) (zI s4) (zo σ)) := by
  unfold zMod_endRound_b75 Mod_endRound_b75
  refine zr_gg (zg_in rfl hx1) (fun g1 => ?_)
  refine zr_g (fun g2 => ?_)
  exact zr_of (zMod_endRound_b83_r N _ hs1 _ hs2 _ hs3 _ hs4 _ g2 _ hσ) (congr (congr (congr (congr (congr (congrArg (Mod_endRound_b83 N) rfl) rfl) rfl) rfl) (zI_sub (zo_get (j := 22) rfl rfl hx1) (zl_1))) rfl)
def zMod_endRound_b70 (N : Nat) (s1 : Int) (s2 : Int) (s3 : Int) (s4 : Int) (σ : z_S) : Option (Int × z_S) := zMod_endRound_b83 N s1 s2 s3 s4 1000000 σ
theorem zMod_endRound_b70_r (N : Nat) (s1 : Int) (hs1 : zin s1) (s2 : Int) (hs2 : zin s2) (s3 : Int) (hs3 : zin s3) (s4 : Int) (hs4 : zin s4) (σ : z_S) (hσ : zR σ) : zrel (zMod_endRound_b70 N s1 s2 s3 s4 σ) (Mod_endRound_b70 N (zI s1) (zI s2) (zI s3) (zI s4) (zo σ)) := by
  unfold zMod_endRound_b70 Mod_endRound_b70
  exact zr_of (zMod_endRound_b83_r N _ hs1 _ hs2 _ hs3 _ hs4 _ (by decide) _ hσ) (congr (congr (congr (congr (congr (congrArg (Mod_endRound_b83 N) rfl) rfl) rfl) rfl) (zl_1000000)) rfl)
def zMod_endRound_b59 (N : Nat) (x1 : Int) (s1 : Int) (s2 : Int) (s3 : Int) (s4 : Int) (σ : z_S) : Option (Int × z_S) := if zIn x1 90000 then if (σ.2 22 (x1).toNat) = 1000000 then zMod_endRound_b70 N s1 s2 s3 s4 σ else zMod_endRound_b75 N x1 s1 s2 s3 s4 σ else none
theorem zMod_endRound_b59_r (N : Nat) (x1 : Int) (hx1 : zin x1) (s1 : Int) (hs1 : zin s1) (s2 : Int) (hs2 : zin s2) (s3 : Int) (hs3 : zin s3) (s4 : Int) (hs4 : zin s4) (σ : z_S) (hσ : zR σ) : zrel (zMod_endRound_b59 N x1 s1 s2 s3 s4 σ) (Mod_endRound_b59 N (zI x1) (zI s1) (zI s2) (zI s3) (zI s4) (zo σ)) := by
  unfold zMod_endRound_b59 Mod_endRound_b59
  refine zr_gg (zg_in rfl hx1) (fun g1 => ?_)
  refine zr_ite (zI_eq (zo_get (j := 22) rfl rfl hx1) (zl_1000000) (hσ.2 22 _) (by decide)) ?_ ?_
  · exact zr_of (zMod_endRound_b70_r N _ hs1 _ hs2 _ hs3 _ hs4 _ hσ) (congr (congr (congr (congr (congrArg (Mod_endRound_b70 N) rfl) rfl) rfl) rfl) rfl)
  · exact zr_of (zMod_endRound_b75_r N _ hx1 _ hs1 _ hs2 _ hs3 _ hs4 _ hσ) (congr (congr (congr (congr (congr (congrArg (Mod_endRound_b75 N) rfl) rfl) rfl) rfl) rfl) rfl)
def zMod_endRound_b51 (N : Nat) (x1 : Int) (s1 : Int) (s2 : Int) (s3 : Int) (σ : z_S) : Option (Int × z_S) := if zIn x1 90000 then if zin ((σ.2 21 (x1).toNat) - 1) then zMod_endRound_b59 N x1 s1 s2 s3 ((σ.2 21 (x1).toNat) - 1) σ else none else none
theorem zMod_endRound_b51_r (N : Nat) (x1 : Int) (hx1 : zin x1) (s1 : Int) (hs1 : zin s1) (s2 : Int) (hs2 : zin s2) (s3 : Int) (hs3 : zin s3) (σ : z_S) (hσ : zR σ) : zrel (zMod_endRound_b51 N x1 s1 s2 s3 σ) (Mod_endRound_b51 N (zI x1) (zI s1) (zI s2) (zI s3) (zo σ)) := by
  unfold zMod_endRound_b51 Mod_endRound_b51
  refine zr_gg (zg_in rfl hx1) (fun g1 => ?_)
  refine zr_g (fun g2 => ?_)
  exact zr_of (zMod_endRound_b59_r N _ hx1 _ hs1 _ hs2 _ hs3 _ g2 _ hσ) (congr (congr (congr (congr (congr (congrArg (Mod_endRound_b59 N) rfl) rfl) rfl) rfl) (zI_sub (zo_get (j := 21) rfl rfl hx1) (zl_1))) rfl)
def zMod_endRound_b47 (N : Nat) (x1 : Int) (s1 : Int) (s2 : Int) (s3 : Int) (σ : z_S) : Option (Int × z_S) := zMod_endRound_b59 N x1 s1 s2 s3 0 σ
theorem zMod_endRound_b47_r (N : Nat) (x1 : Int) (hx1 : zin x1) (s1 : Int) (hs1 : zin s1) (s2 : Int) (hs2 : zin s2) (s3 : Int) (hs3 : zin s3) (σ : z_S) (hσ : zR σ) : zrel (zMod_endRound_b47 N x1 s1 s2 s3 σ) (Mod_endRound_b47 N (zI x1) (zI s1) (zI s2) (zI s3) (zo σ)) := by
  unfold zMod_endRound_b47 Mod_endRound_b47
  exact zr_of (zMod_endRound_b59_r N _ hx1 _ hs1 _ hs2 _ hs3 _ (by decide) _ hσ) (congr (congr (congr (congr (congr (congrArg (Mod_endRound_b59 N) rfl) rfl) rfl) rfl) (zl_0)) rfl)
def zMod_endRound_b24 (N : Nat) (x1 : Int) (σ : z_S) : Option (Int × z_S) := if zIn x1 90000 then if (σ.2 21 (x1).toNat) = 0 then zMod_endRound_b47 N x1 4 (σ.2 19 (x1).toNat) (σ.2 20 (x1).toNat) σ else zMod_endRound_b51 N x1 4 (σ.2 19 (x1).toNat) (σ.2 20 (x1).toNat) σ else none
theorem zMod_endRound_b24_r (N : Nat) (x1 : Int) (hx1 : zin x1) (σ : z_S) (hσ : zR σ) : zrel (zMod_endRound_b24 N x1 σ) (Mod_endRound_b24 N (zI x1) (zo σ)) := by
  unfold zMod_endRound_b24 Mod_endRound_b24
  refine zr_gg (zg_in rfl hx1) (fun g1 => ?_)
  refine zr_ite (zI_eq (zo_get (j := 21) rfl rfl hx1) (zl_0) (hσ.2 21 _) (by decide)) ?_ ?_
  · exact zr_of (zMod_endRound_b47_r N _ hx1 _ (by decide) _ (hσ.2 19 _) _ (hσ.2 20 _) _ hσ) (congr (congr (congr (congr (congrArg (Mod_endRound_b47 N) rfl) (zl_4)) (zo_get (j := 19) rfl rfl hx1)) (zo_get (j := 20) rfl rfl hx1)) rfl)
  · exact zr_of (zMod_endRound_b51_r N _ hx1 _ (by decide) _ (hσ.2 19 _) _ (hσ.2 20 _) _ hσ) (congr (congr (congr (congr (congrArg (Mod_endRound_b51 N) rfl) (zl_4)) (zo_get (j := 19) rfl rfl hx1)) (zo_get (j := 20) rfl rfl hx1)) rfl)
def zMod_endRound_b22 (N : Nat) (σ : z_S) : Option (Int × z_S) := some ((-1), σ)
theorem zMod_endRound_b22_r (N : Nat) (σ : z_S) (hσ : zR σ) : zrel (zMod_endRound_b22 N σ) (Mod_endRound_b22 N (zo σ)) := by
  unfold zMod_endRound_b22 Mod_endRound_b22
  exact zr_some (zl_m1) (by decide) rfl hσ
def zMod_endRound_b9 (N : Nat) (x1 : Int) (σ : z_S) : Option (Int × z_S) := if zIn x1 90000 then if (σ.1 11) = (σ.2 23 (x1).toNat) then zMod_endRound_b22 N σ else zMod_endRound_b24 N x1 σ else none
theorem zMod_endRound_b9_r (N : Nat) (x1 : Int) (hx1 : zin x1) (σ : z_S) (hσ : zR σ) : zrel (zMod_endRound_b9 N x1 σ) (Mod_endRound_b9 N (zI x1) (zo σ)) := by
  unfold zMod_endRound_b9 Mod_endRound_b9
  refine zr_gg (zg_in rfl hx1) (fun g1 => ?_)
  refine zr_ite (zI_eq (zo_fld rfl 11) (zo_get (j := 23) rfl rfl hx1) (hσ.1 11) (hσ.2 23 _)) ?_ ?_
  · exact zr_of (zMod_endRound_b22_r N  _ hσ) (congrArg (Mod_endRound_b22 N) rfl)
  · exact zr_of (zMod_endRound_b24_r N _ hx1 _ hσ) (congr (congrArg (Mod_endRound_b24 N) rfl) rfl)
def zMod_endRound_b0 (N : Nat) (x1 : Int) (σ : z_S) : Option (Int × z_S) := if zIn x1 90000 then if (σ.2 21 (x1).toNat) = 0 then zMod_endRound_b9 N x1 σ else zMod_endRound_b24 N x1 σ else none
theorem zMod_endRound_b0_r (N : Nat) (x1 : Int) (hx1 : zin x1) (σ : z_S) (hσ : zR σ) : zrel (zMod_endRound_b0 N x1 σ) (Mod_endRound_b0 N (zI x1) (zo σ)) := by
  unfold zMod_endRound_b0 Mod_endRound_b0
  refine zr_gg (zg_in rfl hx1) (fun g1 => ?_)
  refine zr_ite (zI_eq (zo_get (j := 21) rfl rfl hx1) (zl_0) (hσ.2 21 _) (by decide)) ?_ ?_
  · exact zr_of (zMod_endRound_b9_r N _ hx1 _ hσ) (congr (congrArg (Mod_endRound_b9 N) rfl) rfl)
  · exact zr_of (zMod_endRound_b24_r N _ hx1 _ hσ) (congr (congrArg (Mod_endRound_b24 N) rfl) rfl)
def zMod_endRound (N : Nat) (x1 : Int) (σ : z_S) : Option (Int × z_S) := zMod_endRound_b0 N x1 σ
theorem zMod_endRound_r (N : Nat) (x1 : Int) (hx1 : zin x1) (σ : z_S) (hσ : zR σ) : zrel (zMod_endRound N x1 σ) (Mod_endRound N (zI x1) (zo σ)) := by
  unfold zMod_endRound Mod_endRound
  exact zr_of (zMod_endRound_b0_r N _ hx1 _ hσ) (congr (congrArg (Mod_endRound_b0 N) rfl) rfl)
def zMod_endLook_b30 (N : Nat) (x1 : Int) (σ : z_S) : Option (Int × z_S) := if zIn x1 90000 then some ((σ.2 20 (x1).toNat), (zF σ 11 (σ.2 21 (x1).toNat))) else none
theorem zMod_endLook_b30_r (N : Nat) (x1 : Int) (hx1 : zin x1) (σ : z_S) (hσ : zR σ) : zrel (zMod_endLook_b30 N x1 σ) (Mod_endLook_b30 N (zI x1) (zo σ)) := by
  unfold zMod_endLook_b30 Mod_endLook_b30
  refine zr_gg (zg_in rfl hx1) (fun g1 => ?_)
  exact zr_some (zo_get (j := 20) rfl rfl hx1) (hσ.2 20 _) (zo_F (k := 11) rfl (zo_get (j := 21) rfl rfl hx1)) (zR_F (k := 11) hσ (hσ.2 21 _))
def zMod_endLook_b28 (N : Nat) (σ : z_S) : Option (Int × z_S) := some ((-1), σ)
theorem zMod_endLook_b28_r (N : Nat) (σ : z_S) (hσ : zR σ) : zrel (zMod_endLook_b28 N σ) (Mod_endLook_b28 N (zo σ)) := by
  unfold zMod_endLook_b28 Mod_endLook_b28
  exact zr_some (zl_m1) (by decide) rfl hσ
def zMod_endLook_b0 (N : Nat) (x1 : Int) (σ : z_S) : Option (Int × z_S) := if zIn x1 90000 then if zIn (σ.2 19 (x1).toNat) 1300 then if (σ.2 3 ((σ.2 19 (x1).toNat)).toNat) = 15 then if zin ((σ.2 22 (x1).toNat) - 1) then zMod_endLook_b28 N (zF σ 19 ((σ.2 22 (x1).toNat) - 1)) else none else if zin ((σ.2 22 (x1).toNat) - 1) then zMod_endLook_b30 N x1 (zF σ 19 ((σ.2 22 (x1).toNat) - 1)) else none else none else none
theorem zMod_endLook_b0_r (N : Nat) (x1 : Int) (hx1 : zin x1) (σ : z_S) (hσ : zR σ) : zrel (zMod_endLook_b0 N x1 σ) (Mod_endLook_b0 N (zI x1) (zo σ)) := by
  unfold zMod_endLook_b0 Mod_endLook_b0
  refine zr_gg (zg_in rfl hx1) (fun g1 => ?_)
  refine zr_gg (zg_in (zo_get (j := 19) rfl rfl hx1) (hσ.2 19 _)) (fun g2 => ?_)
  refine zr_ite (zI_eq (zo_get (j := 3) rfl (zo_get (j := 19) rfl rfl hx1) (hσ.2 19 _)) (zl_15) (hσ.2 3 _) (by decide)) ?_ ?_
  · refine zr_g (fun g3 => ?_)
    exact zr_of (zMod_endLook_b28_r N  _ (zR_F (k := 19) hσ g3)) (congrArg (Mod_endLook_b28 N) (zo_F (k := 19) rfl (zI_sub (zo_get (j := 22) rfl rfl hx1) (zl_1))))
  · refine zr_g (fun g4 => ?_)
    exact zr_of (zMod_endLook_b30_r N _ hx1 _ (zR_F (k := 19) hσ g4)) (congr (congrArg (Mod_endLook_b30 N) rfl) (zo_F (k := 19) rfl (zI_sub (zo_get (j := 22) rfl rfl hx1) (zl_1))))
def zMod_endLook (N : Nat) (x1 : Int) (σ : z_S) : Option (Int × z_S) := zMod_endLook_b0 N x1 σ
theorem zMod_endLook_r (N : Nat) (x1 : Int) (hx1 : zin x1) (σ : z_S) (hσ : zR σ) : zrel (zMod_endLook N x1 σ) (Mod_endLook N (zI x1) (zo σ)) := by
  unfold zMod_endLook Mod_endLook
  exact zr_of (zMod_endLook_b0_r N _ hx1 _ hσ) (congr (congrArg (Mod_endLook_b0 N) rfl) rfl)
def zMod_perform_b56 (N : Nat) (x1 : Int) (x2 : Int) (σ : z_S) : Option (Int × z_S) := if zIn x1 90000 then (zMod_doNode N x2 (σ.2 20 (x1).toNat) σ).bind fun q64 => some (q64.1, q64.2) else none
theorem zMod_perform_b56_r (N : Nat) (x1 : Int) (hx1 : zin x1) (x2 : Int) (hx2 : zin x2) (σ : z_S) (hσ : zR σ) : zrel (zMod_perform_b56 N x1 x2 σ) (Mod_perform_b56 N (zI x1) (zI x2) (zo σ)) := by
  unfold zMod_perform_b56 Mod_perform_b56
  refine zr_gg (zg_in rfl hx1) (fun g1 => ?_)
  refine zr_bind (zr_of (zMod_doNode_r N _ hx2 _ (hσ.2 20 _) _ hσ) (congr (congr (congrArg (Mod_doNode N) rfl) (zo_get (j := 20) rfl rfl hx1)) rfl)) (fun r64 s64σ hr64 hs64 => ?_)
  dsimp only
  exact zr_some rfl hr64 rfl hs64
def zMod_perform_b138 (N : Nat) (s0 : Int) (σ : z_S) : Option (Int × z_S) := some (s0, σ)
theorem zMod_perform_b138_r (N : Nat) (s0 : Int) (hs0 : zin s0) (σ : z_S) (hσ : zR σ) : zrel (zMod_perform_b138 N s0 σ) (Mod_perform_b138 N (zI s0) (zo σ)) := by
  unfold zMod_perform_b138 Mod_perform_b138
  exact zr_some rfl hs0 rfl hσ
def zMod_perform_b136 (N : Nat) (σ : z_S) : Option (Int × z_S) := zMod_perform_b138 N (-2) σ
theorem zMod_perform_b136_r (N : Nat) (σ : z_S) (hσ : zR σ) : zrel (zMod_perform_b136 N σ) (Mod_perform_b136 N (zo σ)) := by
  unfold zMod_perform_b136 Mod_perform_b136
  exact zr_of (zMod_perform_b138_r N _ (by decide) _ hσ) (congr (congrArg (Mod_perform_b138 N) (zl_m2)) rfl)
def zMod_perform_b113 (N : Nat) (x1 : Int) (x2 : Int) (σ : z_S) : Option (Int × z_S) := if zIn x2 1300 then if zIn x1 90000 then (zMod_row N 2 (σ.2 7 (x2).toNat) (σ.2 20 (x1).toNat) 0 0 0 σ).bind fun q130 => zMod_perform_b138 N q130.1 q130.2 else none else none
theorem zMod_perform_b113_r (N : Nat) (x1 : Int) (hx1 : zin x1) (x2 : Int) (hx2 : zin x2) (σ : z_S) (hσ : zR σ) : zrel (zMod_perform_b113 N x1 x2 σ) (Mod_perform_b113 N (zI x1) (zI x2) (zo σ)) := by
  unfold zMod_perform_b113 Mod_perform_b113
  refine zr_gg (zg_in rfl hx2) (fun g1 => ?_)
  refine zr_gg (zg_in rfl hx1) (fun g2 => ?_)
  refine zr_bind (zr_of (zMod_row_r N _ (by decide) _ (hσ.2 7 _) _ (hσ.2 20 _) _ (by decide) _ (by decide) _ (by decide) _ hσ) (congr (congr (congr (congr (congr (congr (congrArg (Mod_row N) (zl_2)) (zo_get (j := 7) rfl rfl hx2)) (zo_get (j := 20) rfl rfl hx1)) (zl_0)) (zl_0)) (zl_0)) rfl)) (fun r130 s130σ hr130 hs130 => ?_)
  dsimp only
  exact zr_of (zMod_perform_b138_r N _ hr130 _ hs130) (congr (congrArg (Mod_perform_b138 N) rfl) rfl)
def zMod_perform_b106 (N : Nat) (x1 : Int) (x2 : Int) (σ : z_S) : Option (Int × z_S) := (zMod_spends N σ).bind fun q107 => if q107.1 = 0 then zMod_perform_b136 N q107.2 else zMod_perform_b113 N x1 x2 q107.2
theorem zMod_perform_b106_r (N : Nat) (x1 : Int) (hx1 : zin x1) (x2 : Int) (hx2 : zin x2) (σ : z_S) (hσ : zR σ) : zrel (zMod_perform_b106 N x1 x2 σ) (Mod_perform_b106 N (zI x1) (zI x2) (zo σ)) := by
  unfold zMod_perform_b106 Mod_perform_b106
  refine zr_bind (zr_of (zMod_spends_r N  _ hσ) (congrArg (Mod_spends N) rfl)) (fun r107 s107σ hr107 hs107 => ?_)
  dsimp only
  refine zr_ite (zI_eq rfl (zl_0) hr107 (by decide)) ?_ ?_
  · exact zr_of (zMod_perform_b136_r N  _ hs107) (congrArg (Mod_perform_b136 N) rfl)
  · exact zr_of (zMod_perform_b113_r N _ hx1 _ hx2 _ hs107) (congr (congr (congrArg (Mod_perform_b113 N) rfl) rfl) rfl)
def zMod_perform_b77 (N : Nat) (x1 : Int) (x2 : Int) (σ : z_S) : Option (Int × z_S) := if zIn x2 1300 then if zIn x1 90000 then (zMod_row N 1 (σ.2 9 (x2).toNat) (σ.2 20 (x1).toNat) 0 0 0 σ).bind fun q95 => (zMod_push N q95.1 (q95.2.1 11) 0 q95.2).bind fun q103 => zMod_perform_b106 N x1 x2 q103.2 else none else none
theorem zMod_perform_b77_r (N : Nat) (x1 : Int) (hx1 : zin x1) (x2 : Int) (hx2 : zin x2) (σ : z_S) (hσ : zR σ) : zrel (zMod_perform_b77 N x1 x2 σ) (Mod_perform_b77 N (zI x1) (zI x2) (zo σ)) := by
  unfold zMod_perform_b77 Mod_perform_b77
  refine zr_gg (zg_in rfl hx2) (fun g1 => ?_)
  refine zr_gg (zg_in rfl hx1) (fun g2 => ?_)
  refine zr_bind (zr_of (zMod_row_r N _ (by decide) _ (hσ.2 9 _) _ (hσ.2 20 _) _ (by decide) _ (by decide) _ (by decide) _ hσ) (congr (congr (congr (congr (congr (congr (congrArg (Mod_row N) (zl_1)) (zo_get (j := 9) rfl rfl hx2)) (zo_get (j := 20) rfl rfl hx1)) (zl_0)) (zl_0)) (zl_0)) rfl)) (fun r95 s95σ hr95 hs95 => ?_)
  dsimp only
  refine zr_bind (zr_of (zMod_push_r N _ hr95 _ (hs95.1 11) _ (by decide) _ hs95) (congr (congr (congr (congrArg (Mod_push N) rfl) (zo_fld rfl 11)) (zl_0)) rfl)) (fun r103 s103σ hr103 hs103 => ?_)
  dsimp only
  exact zr_of (zMod_perform_b106_r N _ hx1 _ hx2 _ hs103) (congr (congr (congrArg (Mod_perform_b106 N) rfl) rfl) rfl)
def zMod_perform_b68 (N : Nat) (x1 : Int) (x2 : Int) (σ : z_S) : Option (Int × z_S) := if zIn x2 1300 then if (σ.2 9 (x2).toNat) < 0 then zMod_perform_b106 N x1 x2 σ else zMod_perform_b77 N x1 x2 σ else none
theorem zMod_perform_b68_r (N : Nat) (x1 : Int) (hx1 : zin x1) (x2 : Int) (hx2 : zin x2) (σ : z_S) (hσ : zR σ) : zrel (zMod_perform_b68 N x1 x2 σ) (Mod_perform_b68 N (zI x1) (zI x2) (zo σ)) := by
  unfold zMod_perform_b68 Mod_perform_b68
  refine zr_gg (zg_in rfl hx2) (fun g1 => ?_)
  refine zr_ite (zI_lt (zo_get (j := 9) rfl rfl hx2) (zl_0) (hσ.2 9 _) (by decide)) ?_ ?_
  · exact zr_of (zMod_perform_b106_r N _ hx1 _ hx2 _ hσ) (congr (congr (congrArg (Mod_perform_b106 N) rfl) rfl) rfl)
  · exact zr_of (zMod_perform_b77_r N _ hx1 _ hx2 _ hσ) (congr (congr (congrArg (Mod_perform_b77 N) rfl) rfl) rfl)
def zMod_perform_b181 (N : Nat) (s0 : Int) (σ : z_S) : Option (Int × z_S) := some (s0, σ)
theorem zMod_perform_b181_r (N : Nat) (s0 : Int) (hs0 : zin s0) (σ : z_S) (hσ : zR σ) : zrel (zMod_perform_b181 N s0 σ) (Mod_perform_b181 N (zI s0) (zo σ)) := by
  unfold zMod_perform_b181 Mod_perform_b181
  exact zr_some rfl hs0 rfl hσ
def zMod_perform_b152 (N : Nat) (x1 : Int) (x2 : Int) (σ : z_S) : Option (Int × z_S) := if zIn x2 1300 then if zIn x1 90000 then (zMod_row N 2 (σ.2 9 (x2).toNat) (σ.2 20 (x1).toNat) 0 0 0 σ).bind fun q172 => (zMod_row N 0 x2 q172.1 0 0 0 q172.2).bind fun q178 => zMod_perform_b181 N q178.1 q178.2 else none else none
theorem zMod_perform_b152_r (N : Nat) (x1 : Int) (hx1 : zin x1) (x2 : Int) (hx2 : zin x2) (σ : z_S) (hσ : zR σ) : zrel (zMod_perform_b152 N x1 x2 σ) (Mod_perform_b152 N (zI x1) (zI x2) (zo σ)) := by
  unfold zMod_perform_b152 Mod_perform_b152
  refine zr_gg (zg_in rfl hx2) (fun g1 => ?_)
  refine zr_gg (zg_in rfl hx1) (fun g2 => ?_)
  refine zr_bind (zr_of (zMod_row_r N _ (by decide) _ (hσ.2 9 _) _ (hσ.2 20 _) _ (by decide) _ (by decide) _ (by decide) _ hσ) (congr (congr (congr (congr (congr (congr (congrArg (Mod_row N) (zl_2)) (zo_get (j := 9) rfl rfl hx2)) (zo_get (j := 20) rfl rfl hx1)) (zl_0)) (zl_0)) (zl_0)) rfl)) (fun r172 s172σ hr172 hs172 => ?_)
  dsimp only
  refine zr_bind (zr_of (zMod_row_r N _ (by decide) _ hx2 _ hr172 _ (by decide) _ (by decide) _ (by decide) _ hs172) (congr (congr (congr (congr (congr (congr (congrArg (Mod_row N) (zl_0)) rfl) rfl) (zl_0)) (zl_0)) (zl_0)) rfl)) (fun r178 s178σ hr178 hs178 => ?_)
  dsimp only
  exact zr_of (zMod_perform_b181_r N _ hr178 _ hs178) (congr (congrArg (Mod_perform_b181 N) rfl) rfl)
def zMod_perform_b143 (N : Nat) (x1 : Int) (σ : z_S) : Option (Int × z_S) := if zIn x1 90000 then zMod_perform_b181 N (σ.2 20 (x1).toNat) σ else none
theorem zMod_perform_b143_r (N : Nat) (x1 : Int) (hx1 : zin x1) (σ : z_S) (hσ : zR σ) : zrel (zMod_perform_b143 N x1 σ) (Mod_perform_b143 N (zI x1) (zo σ)) := by
  unfold zMod_perform_b143 Mod_perform_b143
  refine zr_gg (zg_in rfl hx1) (fun g1 => ?_)
  exact zr_of (zMod_perform_b181_r N _ (hσ.2 20 _) _ hσ) (congr (congrArg (Mod_perform_b181 N) (zo_get (j := 20) rfl rfl hx1)) rfl)
def zMod_perform_b139 (N : Nat) (x1 : Int) (x2 : Int) (σ : z_S) : Option (Int × z_S) := if (0 : Int) ≤ x2 then zMod_perform_b152 N x1 x2 σ else zMod_perform_b143 N x1 σ
theorem zMod_perform_b139_r (N : Nat) (x1 : Int) (hx1 : zin x1) (x2 : Int) (hx2 : zin x2) (σ : z_S) (hσ : zR σ) : zrel (zMod_perform_b139 N x1 x2 σ) (Mod_perform_b139 N (zI x1) (zI x2) (zo σ)) := by
  unfold zMod_perform_b139 Mod_perform_b139
  refine zr_ite (zI_le (zl_0) rfl (by decide) hx2) ?_ ?_
  · exact zr_of (zMod_perform_b152_r N _ hx1 _ hx2 _ hσ) (congr (congr (congrArg (Mod_perform_b152 N) rfl) rfl) rfl)
  · exact zr_of (zMod_perform_b143_r N _ hx1 _ hσ) (congr (congrArg (Mod_perform_b143 N) rfl) rfl)
def zMod_perform_b182 (N : Nat) (x1 : Int) (x2 : Int) (σ : z_S) : Option (Int × z_S) := if zIn x2 1300 then if zIn x1 90000 then if zin (2 * (σ.2 4 (x2).toNat)) then if zIn (2 * (σ.2 4 (x2).toNat)) 42 then if zin ((2 * (σ.2 4 (x2).toNat)) + 1) then if zIn ((2 * (σ.2 4 (x2).toNat)) + 1) 42 then some ((σ.2 20 (x1).toNat), (zA (zA σ 17 ((2 * (σ.2 4 (x2).toNat))).toNat (σ.2 21 (x1).toNat)) 17 (((2 * (σ.2 4 (x2).toNat)) + 1)).toNat (σ.1 11))) else none else none else none else none else none else none
theorem zMod_perform_b182_r (N : Nat) (x1 : Int) (hx1 : zin x1) (x2 : Int) (hx2 : zin x2) (σ : z_S) (hσ : zR σ) : zrel (zMod_perform_b182 N x1 x2 σ) (Mod_perform_b182 N (zI x1) (zI x2) (zo σ)) := by
  unfold zMod_perform_b182 Mod_perform_b182
  refine zr_gg (zg_in rfl hx2) (fun g1 => ?_)
  refine zr_gg (zg_in rfl hx1) (fun g2 => ?_)
  refine zr_g (fun g3 => ?_)
  refine zr_gg (zg_in (zI_mul (zl_2) (zo_get (j := 4) rfl rfl hx2)) g3) (fun g4 => ?_)
  refine zr_g (fun g5 => ?_)
  refine zr_gg (zg_in (zI_add (zI_mul (zl_2) (zo_get (j := 4) rfl rfl hx2)) (zl_1)) g5) (fun g6 => ?_)
  exact zr_some (zo_get (j := 20) rfl rfl hx1) (hσ.2 20 _) (zo_A (a := 17) (zo_A (a := 17) rfl (zI_mul (zl_2) (zo_get (j := 4) rfl rfl hx2)) g3 (zo_get (j := 21) rfl rfl hx1)) (zI_add (zI_mul (zl_2) (zo_get (j := 4) rfl rfl hx2)) (zl_1)) g5 (zo_fld rfl 11)) (zR_A (a := 17) (i := _) (zR_A (a := 17) (i := _) hσ (hσ.2 21 _)) (hσ.1 11))
def zMod_perform_b227 (N : Nat) (x1 : Int) (σ : z_S) : Option (Int × z_S) := (zMod_round N x1 σ).bind fun q229 => some (q229.1, q229.2)
theorem zMod_perform_b227_r (N : Nat) (x1 : Int) (hx1 : zin x1) (σ : z_S) (hσ : zR σ) : zrel (zMod_perform_b227 N x1 σ) (Mod_perform_b227 N (zI x1) (zo σ)) := by
  unfold zMod_perform_b227 Mod_perform_b227
  refine zr_bind (zr_of (zMod_round_r N _ hx1 _ hσ) (congr (congrArg (Mod_round N) rfl) rfl)) (fun r229 s229σ hr229 hs229 => ?_)
  dsimp only
  exact zr_some rfl hr229 rfl hs229
def zMod_perform_b233 (N : Nat) (x1 : Int) (σ : z_S) : Option (Int × z_S) := (zMod_anew N x1 σ).bind fun q235 => some (q235.1, q235.2)
theorem zMod_perform_b233_r (N : Nat) (x1 : Int) (hx1 : zin x1) (σ : z_S) (hσ : zR σ) : zrel (zMod_perform_b233 N x1 σ) (Mod_perform_b233 N (zI x1) (zo σ)) := by
  unfold zMod_perform_b233 Mod_perform_b233
  refine zr_bind (zr_of (zMod_anew_r N _ hx1 _ hσ) (congr (congrArg (Mod_anew N) rfl) rfl)) (fun r235 s235σ hr235 hs235 => ?_)
  dsimp only
  exact zr_some rfl hr235 rfl hs235
def zMod_perform_b239 (N : Nat) (x1 : Int) (σ : z_S) : Option (Int × z_S) := (zMod_endRound N x1 σ).bind fun q241 => some (q241.1, q241.2)
theorem zMod_perform_b239_r (N : Nat) (x1 : Int) (hx1 : zin x1) (σ : z_S) (hσ : zR σ) : zrel (zMod_perform_b239 N x1 σ) (Mod_perform_b239 N (zI x1) (zo σ)) := by
  unfold zMod_perform_b239 Mod_perform_b239
  refine zr_bind (zr_of (zMod_endRound_r N _ hx1 _ hσ) (congr (congrArg (Mod_endRound N) rfl) rfl)) (fun r241 s241σ hr241 hs241 => ?_)
  dsimp only
  exact zr_some rfl hr241 rfl hs241
def zMod_perform_b245 (N : Nat) (x1 : Int) (σ : z_S) : Option (Int × z_S) := (zMod_endLook N x1 σ).bind fun q247 => some (q247.1, q247.2)
theorem zMod_perform_b245_r (N : Nat) (x1 : Int) (hx1 : zin x1) (σ : z_S) (hσ : zR σ) : zrel (zMod_perform_b245 N x1 σ) (Mod_perform_b245 N (zI x1) (zo σ)) := by
  unfold zMod_perform_b245 Mod_perform_b245
  refine zr_bind (zr_of (zMod_endLook_r N _ hx1 _ hσ) (congr (congrArg (Mod_endLook N) rfl) rfl)) (fun r247 s247σ hr247 hs247 => ?_)
  dsimp only
  exact zr_some rfl hr247 rfl hs247
def zMod_perform_b0 (N : Nat) (x1 : Int) (σ : z_S) : Option (Int × z_S) := if zIn x1 90000 then if (σ.2 18 (x1).toNat) = 0 then zMod_perform_b56 N x1 (σ.2 19 (x1).toNat) σ else if (σ.2 18 (x1).toNat) = 1 then zMod_perform_b68 N x1 (σ.2 19 (x1).toNat) σ else if (σ.2 18 (x1).toNat) = 2 then zMod_perform_b139 N x1 (σ.2 19 (x1).toNat) σ else if (σ.2 18 (x1).toNat) = 3 then zMod_perform_b182 N x1 (σ.2 19 (x1).toNat) σ else if (σ.2 18 (x1).toNat) = 4 then zMod_perform_b227 N x1 σ else if (σ.2 18 (x1).toNat) = 5 then zMod_perform_b233 N x1 σ else if (σ.2 18 (x1).toNat) = 6 then zMod_perform_b239 N x1 σ else zMod_perform_b245 N x1 σ else none
theorem zMod_perform_b0_r (N : Nat) (x1 : Int) (hx1 : zin x1) (σ : z_S) (hσ : zR σ) : zrel (zMod_perform_b0 N x1 σ) (Mod_perform_b0 N (zI x1) (zo σ)) := by
  unfold zMod_perform_b0 Mod_perform_b0
  refine zr_gg (zg_in rfl hx1) (fun g1 => ?_)
  refine zr_ite (zI_eq (zo_get (j := 18) rfl rfl hx1) (zl_0) (hσ.2 18 _) (by decide)) ?_ ?_
  · exact zr_of (zMod_perform_b56_r N _ hx1 _ (hσ.2 19 _) _ hσ) (congr (congr (congrArg (Mod_perform_b56 N) rfl) (zo_get (j := 19) rfl rfl hx1)) rfl)
  · refine zr_ite (zI_eq (zo_get (j := 18) rfl rfl hx1) (zl_1) (hσ.2 18 _) (by decide)) ?_ ?_
    · exact zr_of (zMod_perform_b68_r N _ hx1 _ (hσ.2 19 _) _ hσ) (congr (congr (congrArg (Mod_perform_b68 N) rfl) (zo_get (j := 19) rfl rfl hx1)) rfl)
    · refine zr_ite (zI_eq (zo_get (j := 18) rfl rfl hx1) (zl_2) (hσ.2 18 _) (by decide)) ?_ ?_
      · exact zr_of (zMod_perform_b139_r N _ hx1 _ (hσ.2 19 _) _ hσ) (congr (congr (congrArg (Mod_perform_b139 N) rfl) (zo_get (j := 19) rfl rfl hx1)) rfl)
      · refine zr_ite (zI_eq (zo_get (j := 18) rfl rfl hx1) (zl_3) (hσ.2 18 _) (by decide)) ?_ ?_
        · exact zr_of (zMod_perform_b182_r N _ hx1 _ (hσ.2 19 _) _ hσ) (congr (congr (congrArg (Mod_perform_b182 N) rfl) (zo_get (j := 19) rfl rfl hx1)) rfl)
        · refine zr_ite (zI_eq (zo_get (j := 18) rfl rfl hx1) (zl_4) (hσ.2 18 _) (by decide)) ?_ ?_
          · exact zr_of (zMod_perform_b227_r N _ hx1 _ hσ) (congr (congrArg (Mod_perform_b227 N) rfl) rfl)
          · refine zr_ite (zI_eq (zo_get (j := 18) rfl rfl hx1) (zl_5) (hσ.2 18 _) (by decide)) ?_ ?_
            · exact zr_of (zMod_perform_b233_r N _ hx1 _ hσ) (congr (congrArg (Mod_perform_b233 N) rfl) rfl)
            · refine zr_ite (zI_eq (zo_get (j := 18) rfl rfl hx1) (zl_6) (hσ.2 18 _) (by decide)) ?_ ?_
              · exact zr_of (zMod_perform_b239_r N _ hx1 _ hσ) (congr (congrArg (Mod_perform_b239 N) rfl) rfl)
              · exact zr_of (zMod_perform_b245_r N _ hx1 _ hσ) (congr (congrArg (Mod_perform_b245 N) rfl) rfl)
def zMod_perform (N : Nat) (x1 : Int) (σ : z_S) : Option (Int × z_S) := zMod_perform_b0 N x1 σ
theorem zMod_perform_r (N : Nat) (x1 : Int) (hx1 : zin x1) (σ : z_S) (hσ : zR σ) : zrel (zMod_perform N x1 σ) (Mod_perform N (zI x1) (zo σ)) := by
  unfold zMod_perform Mod_perform
  exact zr_of (zMod_perform_b0_r N _ hx1 _ hσ) (congr (congrArg (Mod_perform_b0 N) rfl) rfl)
def zMod_tryAt_b105 (N : Nat) (x1 : Int) (σ : z_S) : Option (Int × z_S) := if zIn 0 42 then if zIn 1 42 then some (1, (zA (zA σ 17 (0 : Int).toNat x1) 17 (1 : Int).toNat (σ.1 11))) else none else none
theorem zMod_tryAt_b105_r (N : Nat) (x1 : Int) (hx1 : zin x1) (σ : z_S) (hσ : zR σ) : zrel (zMod_tryAt_b105 N x1 σ) (Mod_tryAt_b105 N (zI x1) (zo σ)) := by
  unfold zMod_tryAt_b105 Mod_tryAt_b105
  refine zr_gg (zg_in (zl_0) (by decide)) (fun g1 => ?_)
  refine zr_gg (zg_in (zl_1) (by decide)) (fun g2 => ?_)
  exact zr_some (zl_1) (by decide) (zo_A (a := 17) (zo_A (a := 17) rfl (zl_0) (by decide) rfl) (zl_1) (by decide) (zo_fld rfl 11)) (zR_A (a := 17) (i := _) (zR_A (a := 17) (i := _) hσ hx1) (hσ.1 11))
def zMod_tryAt_b103 (N : Nat) (σ : z_S) : Option (Int × z_S) := some (0, σ)
theorem zMod_tryAt_b103_r (N : Nat) (σ : z_S) (hσ : zR σ) : zrel (zMod_tryAt_b103 N σ) (Mod_tryAt_b103 N (zo σ)) := by
  unfold zMod_tryAt_b103 Mod_tryAt_b103
  exact zr_some (zl_0) (by decide) rfl hσ
def zMod_tryAt_b99 (N : Nat) (x1 : Int) (x2 : Int) (σ : z_S) : Option (Int × z_S) := if (0 : Int) ≤ x2 then zMod_tryAt_b105 N x1 σ else zMod_tryAt_b103 N σ
theorem zMod_tryAt_b99_r (N : Nat) (x1 : Int) (hx1 : zin x1) (x2 : Int) (hx2 : zin x2) (σ : z_S) (hσ : zR σ) : zrel (zMod_tryAt_b99 N x1 x2 σ) (Mod_tryAt_b99 N (zI x1) (zI x2) (zo σ)) := by
  unfold zMod_tryAt_b99 Mod_tryAt_b99
  refine zr_ite (zI_le (zl_0) rfl (by decide) hx2) ?_ ?_
  · exact zr_of (zMod_tryAt_b105_r N _ hx1 _ hσ) (congr (congrArg (Mod_tryAt_b105 N) rfl) rfl)
  · exact zr_of (zMod_tryAt_b103_r N  _ hσ) (congrArg (Mod_tryAt_b103 N) rfl)
def zMod_tryAt_b97 (N : Nat) (σ : z_S) : Option (Int × z_S) := some (2, σ)
theorem zMod_tryAt_b97_r (N : Nat) (σ : z_S) (hσ : zR σ) : zrel (zMod_tryAt_b97 N σ) (Mod_tryAt_b97 N (zo σ)) := by
  unfold zMod_tryAt_b97 Mod_tryAt_b97
  exact zr_some (zl_2) (by decide) rfl hσ
def zMod_tryAt_b91 (N : Nat) (k57 : Int → Int → z_S → Option (Int × z_S)) (x1 : Int) (x2 : Int) (σ : z_S) : Option (Int × z_S) := if x2 = (-2) then zMod_tryAt_b97 N σ else k57 x1 x2 σ
theorem zMod_tryAt_b91_r (N : Nat) (k57 : Int → Int → z_S → Option (Int × z_S)) (k57' : Int32 → Int32 → g_S → Option (Int32 × g_S)) (hk57 : ∀ (y0 : Int) (_ : zin y0) (y1 : Int) (_ : zin y1) (σ : z_S), zR σ → zrel (k57 y0 y1 σ) (k57' (zI y0) (zI y1) (zo σ))) (x1 : Int) (hx1 : zin x1) (x2 : Int) (hx2 : zin x2) (σ : z_S) (hσ : zR σ) : zrel (zMod_tryAt_b91 N k57 x1 x2 σ) (Mod_tryAt_b91 N k57' (zI x1) (zI x2) (zo σ)) := by
  unfold zMod_tryAt_b91 Mod_tryAt_b91
  refine zr_ite (zI_eq rfl (zl_m2) hx2 (by decide)) ?_ ?_
  · exact zr_of (zMod_tryAt_b97_r N  _ hσ) (congrArg (Mod_tryAt_b97 N) rfl)
  · exact zr_of (hk57 _ hx1 _ hx2 _ hσ) (congr (congr (congrArg (k57') rfl) rfl) rfl)
def zMod_tryAt_b83 (N : Nat) (k57 : Int → Int → z_S → Option (Int × z_S)) (x1 : Int) (σ : z_S) : Option (Int × z_S) := (zMod_pop N σ).bind fun q84 => k57 x1 q84.1 q84.2
theorem zMod_tryAt_b83_r (N : Nat) (k57 : Int → Int → z_S → Option (Int × z_S)) (k57' : Int32 → Int32 → g_S → Option (Int32 × g_S)) (hk57 : ∀ (y0 : Int) (_ : zin y0) (y1 : Int) (_ : zin y1) (σ : z_S), zR σ → zrel (k57 y0 y1 σ) (k57' (zI y0) (zI y1) (zo σ))) (x1 : Int) (hx1 : zin x1) (σ : z_S) (hσ : zR σ) : zrel (zMod_tryAt_b83 N k57 x1 σ) (Mod_tryAt_b83 N k57' (zI x1) (zo σ)) := by
  unfold zMod_tryAt_b83 Mod_tryAt_b83
  refine zr_bind (zr_of (zMod_pop_r N  _ hσ) (congrArg (Mod_pop N) rfl)) (fun r84 s84σ hr84 hs84 => ?_)
  dsimp only
  exact zr_of (hk57 _ hx1 _ hr84 _ hs84) (congr (congr (congrArg (k57') rfl) rfl) rfl)
def zMod_tryAt_b72 (N : Nat) (k57 : Int → Int → z_S → Option (Int × z_S)) (x1 : Int) (x2 : Int) (σ : z_S) : Option (Int × z_S) := (zMod_perform N x2 σ).bind fun q74 => if q74.1 = (-1) then zMod_tryAt_b83 N k57 x1 q74.2 else zMod_tryAt_b91 N k57 x1 q74.1 q74.2
theorem zMod_tryAt_b72_r (N : Nat) (k57 : Int → Int → z_S → Option (Int × z_S)) (k57' : Int32 → Int32 → g_S → Option (Int32 × g_S)) (hk57 : ∀ (y0 : Int) (_ : zin y0) (y1 : Int) (_ : zin y1) (σ : z_S), zR σ → zrel (k57 y0 y1 σ) (k57' (zI y0) (zI y1) (zo σ))) (x1 : Int) (hx1 : zin x1) (x2 : Int) (hx2 : zin x2) (σ : z_S) (hσ : zR σ) : zrel (zMod_tryAt_b72 N k57 x1 x2 σ) (Mod_tryAt_b72 N k57' (zI x1) (zI x2) (zo σ)) := by
  unfold zMod_tryAt_b72 Mod_tryAt_b72
  refine zr_bind (zr_of (zMod_perform_r N _ hx2 _ hσ) (congr (congrArg (Mod_perform N) rfl) rfl)) (fun r74 s74σ hr74 hs74 => ?_)
  dsimp only
  refine zr_ite (zI_eq rfl (zl_m1) hr74 (by decide)) ?_ ?_
  · exact zr_of (zMod_tryAt_b83_r N k57 k57' hk57 _ hx1 _ hs74) (congr (congrArg (Mod_tryAt_b83 N k57') rfl) rfl)
  · exact zr_of (zMod_tryAt_b91_r N k57 k57' hk57 _ hx1 _ hr74 _ hs74) (congr (congr (congrArg (Mod_tryAt_b91 N k57') rfl) rfl) rfl)
def zMod_tryAt_b61 (N : Nat) (k57 : Int → Int → z_S → Option (Int × z_S)) (x1 : Int) (x2 : Int) (σ : z_S) : Option (Int × z_S) := if zIn x2 90000 then if (σ.2 18 (x2).toNat) = 8 then zMod_tryAt_b99 N x1 x2 σ else zMod_tryAt_b72 N k57 x1 x2 σ else none
theorem zMod_tryAt_b61_r (N : Nat) (k57 : Int → Int → z_S → Option (Int × z_S)) (k57' : Int32 → Int32 → g_S → Option (Int32 × g_S)) (hk57 : ∀ (y0 : Int) (_ : zin y0) (y1 : Int) (_ : zin y1) (σ : z_S), zR σ → zrel (k57 y0 y1 σ) (k57' (zI y0) (zI y1) (zo σ))) (x1 : Int) (hx1 : zin x1) (x2 : Int) (hx2 : zin x2) (σ : z_S) (hσ : zR σ) : zrel (zMod_tryAt_b61 N k57 x1 x2 σ) (Mod_tryAt_b61 N k57' (zI x1) (zI x2) (zo σ)) := by
  unfold zMod_tryAt_b61 Mod_tryAt_b61
  refine zr_gg (zg_in rfl hx2) (fun g1 => ?_)
  refine zr_ite (zI_eq (zo_get (j := 18) rfl rfl hx2) (zl_8) (hσ.2 18 _) (by decide)) ?_ ?_
  · exact zr_of (zMod_tryAt_b99_r N _ hx1 _ hx2 _ hσ) (congr (congr (congrArg (Mod_tryAt_b99 N) rfl) rfl) rfl)
  · exact zr_of (zMod_tryAt_b72_r N k57 k57' hk57 _ hx1 _ hx2 _ hσ) (congr (congr (congrArg (Mod_tryAt_b72 N k57') rfl) rfl) rfl)
def zMod_tryAt_b57 (N : Nat) (k57 : Int → Int → z_S → Option (Int × z_S)) (x1 : Int) (x2 : Int) (σ : z_S) : Option (Int × z_S) := if x2 < 0 then zMod_tryAt_b99 N x1 x2 σ else zMod_tryAt_b61 N k57 x1 x2 σ
theorem zMod_tryAt_b57_r (N : Nat) (k57 : Int → Int → z_S → Option (Int × z_S)) (k57' : Int32 → Int32 → g_S → Option (Int32 × g_S)) (hk57 : ∀ (y0 : Int) (_ : zin y0) (y1 : Int) (_ : zin y1) (σ : z_S), zR σ → zrel (k57 y0 y1 σ) (k57' (zI y0) (zI y1) (zo σ))) (x1 : Int) (hx1 : zin x1) (x2 : Int) (hx2 : zin x2) (σ : z_S) (hσ : zR σ) : zrel (zMod_tryAt_b57 N k57 x1 x2 σ) (Mod_tryAt_b57 N k57' (zI x1) (zI x2) (zo σ)) := by
  unfold zMod_tryAt_b57 Mod_tryAt_b57
  refine zr_ite (zI_lt rfl (zl_0) hx2 (by decide)) ?_ ?_
  · exact zr_of (zMod_tryAt_b99_r N _ hx1 _ hx2 _ hσ) (congr (congr (congrArg (Mod_tryAt_b99 N) rfl) rfl) rfl)
  · exact zr_of (zMod_tryAt_b61_r N k57 k57' hk57 _ hx1 _ hx2 _ hσ) (congr (congr (congrArg (Mod_tryAt_b61 N k57') rfl) rfl) rfl)
def zMod_tryAt_l57 (N : Nat) : Nat → Int → Int → z_S → Option (Int × z_S)
  | 0 => fun _ _ _ => none
  | n + 1 => fun x1 x2 σ => zMod_tryAt_b57 N (zMod_tryAt_l57 N n) x1 x2 σ
theorem zMod_tryAt_l57_r (N : Nat) (n : Nat) : ∀ (x1 : Int) (hx1 : zin x1) (x2 : Int) (hx2 : zin x2) (σ : z_S) (_ : zR σ), zrel (zMod_tryAt_l57 N n x1 x2 σ) (Mod_tryAt_l57 N n (zI x1) (zI x2) (zo σ)) := by
  induction n with
  | zero => intro x1 hx1 x2 hx2 σ hσ r s h; cases h
  | succ n ih => intro x1 hx1 x2 hx2 σ hσ; exact zMod_tryAt_b57_r N _ _ (fun x1 hx1 x2 hx2 σ hσ => ih x1 hx1 x2 hx2 σ hσ) x1 hx1 x2 hx2 σ hσ
def zMod_tryAt_b36 (N : Nat) (x1 : Int) (σ : z_S) : Option (Int × z_S) := (zMod_row N 8 0 0 0 0 0 σ).bind fun q47 => (zMod_row N 0 0 q47.1 0 0 0 q47.2).bind fun q53 => zMod_tryAt_l57 N N x1 q53.1 q53.2
theorem zMod_tryAt_b36_r (N : Nat) (x1 : Int) (hx1 : zin x1) (σ : z_S) (hσ : zR σ) : zrel (zMod_tryAt_b36 N x1 σ) (Mod_tryAt_b36 N (zI x1) (zo σ)) := by
  unfold zMod_tryAt_b36 Mod_tryAt_b36
  refine zr_bind (zr_of (zMod_row_r N _ (by decide) _ (by decide) _ (by decide) _ (by decide) _ (by decide) _ (by decide) _ hσ) (congr (congr (congr (congr (congr (congr (congrArg (Mod_row N) (zl_8)) (zl_0)) (zl_0)) (zl_0)) (zl_0)) (zl_0)) rfl)) (fun r47 s47σ hr47 hs47 => ?_)
  dsimp only
  refine zr_bind (zr_of (zMod_row_r N _ (by decide) _ (by decide) _ hr47 _ (by decide) _ (by decide) _ (by decide) _ hs47) (congr (congr (congr (congr (congr (congr (congrArg (Mod_row N) (zl_0)) (zl_0)) rfl) (zl_0)) (zl_0)) (zl_0)) rfl)) (fun r53 s53σ hr53 hs53 => ?_)
  dsimp only
  exact zr_of (zMod_tryAt_l57_r N N _ hx1 _ hr53 _ hs53) (congr (congr (congrArg (Mod_tryAt_l57 N N) rfl) rfl) rfl)
def zMod_tryAt_b23 (N : Nat) (k17 : Int → Int → z_S → Option (Int × z_S)) (x1 : Int) (x2 : Int) (σ : z_S) : Option (Int × z_S) := if zIn x2 42 then if zin (x2 + 1) then k17 x1 (x2 + 1) (zA σ 17 (x2).toNat (-1)) else none else none
theorem zMod_tryAt_b23_r (N : Nat) (k17 : Int → Int → z_S → Option (Int × z_S)) (k17' : Int32 → Int32 → g_S → Option (Int32 × g_S)) (hk17 : ∀ (y0 : Int) (_ : zin y0) (y1 : Int) (_ : zin y1) (σ : z_S), zR σ → zrel (k17 y0 y1 σ) (k17' (zI y0) (zI y1) (zo σ))) (x1 : Int) (hx1 : zin x1) (x2 : Int) (hx2 : zin x2) (σ : z_S) (hσ : zR σ) : zrel (zMod_tryAt_b23 N k17 x1 x2 σ) (Mod_tryAt_b23 N k17' (zI x1) (zI x2) (zo σ)) := by
  unfold zMod_tryAt_b23 Mod_tryAt_b23
  refine zr_gg (zg_in rfl hx2) (fun g1 => ?_)
  refine zr_g (fun g2 => ?_)
  exact zr_of (hk17 _ hx1 _ g2 _ (zR_A (a := 17) (i := _) hσ (by decide))) (congr (congr (congrArg (k17') rfl) (zI_add rfl (zl_1))) (zo_A (a := 17) rfl rfl hx2 (zl_m1)))
def zMod_tryAt_b17 (N : Nat) (k17 : Int → Int → z_S → Option (Int × z_S)) (x1 : Int) (x2 : Int) (σ : z_S) : Option (Int × z_S) := if (42 : Int) ≤ x2 then zMod_tryAt_b36 N x1 σ else zMod_tryAt_b23 N k17 x1 x2 σ
theorem zMod_tryAt_b17_r (N : Nat) (k17 : Int → Int → z_S → Option (Int × z_S)) (k17' : Int32 → Int32 → g_S → Option (Int32 × g_S)) (hk17 : ∀ (y0 : Int) (_ : zin y0) (y1 : Int) (_ : zin y1) (σ : z_S), zR σ → zrel (k17 y0 y1 σ) (k17' (zI y0) (zI y1) (zo σ))) (x1 : Int) (hx1 : zin x1) (x2 : Int) (hx2 : zin x2) (σ : z_S) (hσ : zR σ) : zrel (zMod_tryAt_b17 N k17 x1 x2 σ) (Mod_tryAt_b17 N k17' (zI x1) (zI x2) (zo σ)) := by
  unfold zMod_tryAt_b17 Mod_tryAt_b17
  refine zr_ite (zI_le (zl_42) rfl (by decide) hx2) ?_ ?_
  · exact zr_of (zMod_tryAt_b36_r N _ hx1 _ hσ) (congr (congrArg (Mod_tryAt_b36 N) rfl) rfl)
  · exact zr_of (zMod_tryAt_b23_r N k17 k17' hk17 _ hx1 _ hx2 _ hσ) (congr (congr (congrArg (Mod_tryAt_b23 N k17') rfl) rfl) rfl)
def zMod_tryAt_l17 (N : Nat) : Nat → Int → Int → z_S → Option (Int × z_S)
  | 0 => fun _ _ _ => none
  | n + 1 => fun x1 x2 σ => zMod_tryAt_b17 N (zMod_tryAt_l17 N n) x1 x2 σ
theorem zMod_tryAt_l17_r (N : Nat) (n : Nat) : ∀ (x1 : Int) (hx1 : zin x1) (x2 : Int) (hx2 : zin x2) (σ : z_S) (_ : zR σ), zrel (zMod_tryAt_l17 N n x1 x2 σ) (Mod_tryAt_l17 N n (zI x1) (zI x2) (zo σ)) := by
  induction n with
  | zero => intro x1 hx1 x2 hx2 σ hσ r s h; cases h
  | succ n ih => intro x1 hx1 x2 hx2 σ hσ; exact zMod_tryAt_b17_r N _ _ (fun x1 hx1 x2 hx2 σ hσ => ih x1 hx1 x2 hx2 σ hσ) x1 hx1 x2 hx2 σ hσ
def zMod_tryAt_b0 (N : Nat) (x1 : Int) (σ : z_S) : Option (Int × z_S) := zMod_tryAt_l17 N N x1 0 (zF (zF (zF σ 18 0) 19 0) 11 x1)
theorem zMod_tryAt_b0_r (N : Nat) (x1 : Int) (hx1 : zin x1) (σ : z_S) (hσ : zR σ) : zrel (zMod_tryAt_b0 N x1 σ) (Mod_tryAt_b0 N (zI x1) (zo σ)) := by
  unfold zMod_tryAt_b0 Mod_tryAt_b0
  exact zr_of (zMod_tryAt_l17_r N N _ hx1 _ (by decide) _ (zR_F (k := 11) (zR_F (k := 19) (zR_F (k := 18) hσ (by decide)) (by decide)) hx1)) (congr (congr (congrArg (Mod_tryAt_l17 N N) rfl) (zl_0)) (zo_F (k := 11) (zo_F (k := 19) (zo_F (k := 18) rfl (zl_0)) (zl_0)) rfl))
def zMod_tryAt (N : Nat) (x1 : Int) (σ : z_S) : Option (Int × z_S) := zMod_tryAt_b0 N x1 σ
theorem zMod_tryAt_r (N : Nat) (x1 : Int) (hx1 : zin x1) (σ : z_S) (hσ : zR σ) : zrel (zMod_tryAt N x1 σ) (Mod_tryAt N (zI x1) (zo σ)) := by
  unfold zMod_tryAt Mod_tryAt
  exact zr_of (zMod_tryAt_b0_r N _ hx1 _ hσ) (congr (congrArg (Mod_tryAt_b0 N) rfl) rfl)
def zMod_begins_b52 (N : Nat) (x2 : Int) (σ : z_S) : Option (Int × z_S) := some (1, (zF (zF (zF σ 15 0) 16 0) 17 x2))
theorem zMod_begins_b52_r (N : Nat) (x2 : Int) (hx2 : zin x2) (σ : z_S) (hσ : zR σ) : zrel (zMod_begins_b52 N x2 σ) (Mod_begins_b52 N (zI x2) (zo σ)) := by
  unfold zMod_begins_b52 Mod_begins_b52
  exact zr_some (zl_1) (by decide) (zo_F (k := 17) (zo_F (k := 16) (zo_F (k := 15) rfl (zl_0)) (zl_0)) rfl) (zR_F (k := 17) (zR_F (k := 16) (zR_F (k := 15) hσ (by decide)) (by decide)) hx2)
def zMod_begins_b50 (N : Nat) (σ : z_S) : Option (Int × z_S) := some (0, σ)
theorem zMod_begins_b50_r (N : Nat) (σ : z_S) (hσ : zR σ) : zrel (zMod_begins_b50 N σ) (Mod_begins_b50 N (zo σ)) := by
  unfold zMod_begins_b50 Mod_begins_b50
  exact zr_some (zl_0) (by decide) rfl hσ
def zMod_begins_b40 (N : Nat) (x2 : Int) (s1 : Int) (σ : z_S) : Option (Int × z_S) := if s1 ≤ 0 then zMod_begins_b52 N x2 (zF σ 0 s1) else zMod_begins_b50 N (zF σ 0 s1)
theorem zMod_begins_b40_r (N : Nat) (x2 : Int) (hx2 : zin x2) (s1 : Int) (hs1 : zin s1) (σ : z_S) (hσ : zR σ) : zrel (zMod_begins_b40 N x2 s1 σ) (Mod_begins_b40 N (zI x2) (zI s1) (zo σ)) := by
  unfold zMod_begins_b40 Mod_begins_b40
  refine zr_ite (zI_le rfl (zl_0) hs1 (by decide)) ?_ ?_
  · exact zr_of (zMod_begins_b52_r N _ hx2 _ (zR_F (k := 0) hσ hs1)) (congr (congrArg (Mod_begins_b52 N) rfl) (zo_F (k := 0) rfl rfl))
  · exact zr_of (zMod_begins_b50_r N  _ (zR_F (k := 0) hσ hs1)) (congrArg (Mod_begins_b50 N) (zo_F (k := 0) rfl rfl))
def zMod_begins_b24 (N : Nat) (x2 : Int) (σ : z_S) : Option (Int × z_S) := zMod_begins_b40 N x2 1 σ
theorem zMod_begins_b24_r (N : Nat) (x2 : Int) (hx2 : zin x2) (σ : z_S) (hσ : zR σ) : zrel (zMod_begins_b24 N x2 σ) (Mod_begins_b24 N (zI x2) (zo σ)) := by
  unfold zMod_begins_b24 Mod_begins_b24
  exact zr_of (zMod_begins_b40_r N _ hx2 _ (by decide) _ hσ) (congr (congr (congrArg (Mod_begins_b40 N) rfl) (zl_1)) rfl)
def zMod_begins_b39 (N : Nat) (x2 : Int) (σ : z_S) : Option (Int × z_S) := zMod_begins_b40 N x2 0 σ
theorem zMod_begins_b39_r (N : Nat) (x2 : Int) (hx2 : zin x2) (σ : z_S) (hσ : zR σ) : zrel (zMod_begins_b39 N x2 σ) (Mod_begins_b39 N (zI x2) (zo σ)) := by
  unfold zMod_begins_b39 Mod_begins_b39
  exact zr_of (zMod_begins_b40_r N _ hx2 _ (by decide) _ hσ) (congr (congr (congrArg (Mod_begins_b40 N) rfl) (zl_0)) rfl)
def zMod_begins_b35 (N : Nat) (x2 : Int) (σ : z_S) : Option (Int × z_S) := zMod_begins_b40 N x2 2 σ
theorem zMod_begins_b35_r (N : Nat) (x2 : Int) (hx2 : zin x2) (σ : z_S) (hσ : zR σ) : zrel (zMod_begins_b35 N x2 σ) (Mod_begins_b35 N (zI x2) (zo σ)) := by
  unfold zMod_begins_b35 Mod_begins_b35
  exact zr_of (zMod_begins_b40_r N _ hx2 _ (by decide) _ hσ) (congr (congr (congrArg (Mod_begins_b40 N) rfl) (zl_2)) rfl)
def zMod_begins_b28 (N : Nat) (x2 : Int) (σ : z_S) : Option (Int × z_S) := if (σ.1 5) = 0 then zMod_begins_b35 N x2 σ else zMod_begins_b39 N x2 σ
theorem zMod_begins_b28_r (N : Nat) (x2 : Int) (hx2 : zin x2) (σ : z_S) (hσ : zR σ) : zrel (zMod_begins_b28 N x2 σ) (Mod_begins_b28 N (zI x2) (zo σ)) := by
  unfold zMod_begins_b28 Mod_begins_b28
  refine zr_ite (zI_eq (zo_fld rfl 5) (zl_0) (hσ.1 5) (by decide)) ?_ ?_
  · exact zr_of (zMod_begins_b35_r N _ hx2 _ hσ) (congr (congrArg (Mod_begins_b35 N) rfl) rfl)
  · exact zr_of (zMod_begins_b39_r N _ hx2 _ hσ) (congr (congrArg (Mod_begins_b39 N) rfl) rfl)
def zMod_begins_b13 (N : Nat) (x2 : Int) (σ : z_S) : Option (Int × z_S) := (zMod_in N x2 1 10000 σ).bind fun q18 => if q18.1 = 0 then zMod_begins_b24 N x2 q18.2 else zMod_begins_b28 N x2 q18.2
theorem zMod_begins_b13_r (N : Nat) (x2 : Int) (hx2 : zin x2) (σ : z_S) (hσ : zR σ) : zrel (zMod_begins_b13 N x2 σ) (Mod_begins_b13 N (zI x2) (zo σ)) := by
  unfold zMod_begins_b13 Mod_begins_b13
  refine zr_bind (zr_of (zMod_in_r N _ hx2 _ (by decide) _ (by decide) _ hσ) (congr (congr (congr (congrArg (Mod_in N) rfl) (zl_1)) (zl_10000)) rfl)) (fun r18 s18σ hr18 hs18 => ?_)
  dsimp only
  refine zr_ite (zI_eq rfl (zl_0) hr18 (by decide)) ?_ ?_
  · exact zr_of (zMod_begins_b24_r N _ hx2 _ hs18) (congr (congrArg (Mod_begins_b24 N) rfl) rfl)
  · exact zr_of (zMod_begins_b28_r N _ hx2 _ hs18) (congr (congrArg (Mod_begins_b28 N) rfl) rfl)
def zMod_begins_b0 (N : Nat) (x1 : Int) (x2 : Int) (σ : z_S) : Option (Int × z_S) := (zMod_in N x1 0 (σ.1 7) σ).bind fun q7 => if q7.1 = 0 then zMod_begins_b24 N x2 q7.2 else zMod_begins_b13 N x2 q7.2
theorem zMod_begins_b0_r (N : Nat) (x1 : Int) (hx1 : zin x1) (x2 : Int) (hx2 : zin x2) (σ : z_S) (hσ : zR σ) : zrel (zMod_begins_b0 N x1 x2 σ) (Mod_begins_b0 N (zI x1) (zI x2) (zo σ)) := by
  unfold zMod_begins_b0 Mod_begins_b0
  refine zr_bind (zr_of (zMod_in_r N _ hx1 _ (by decide) _ (hσ.1 7) _ hσ) (congr (congr (congr (congrArg (Mod_in N) rfl) (zl_0)) (zo_fld rfl 7)) rfl)) (fun r7 s7σ hr7 hs7 => ?_)
  dsimp only
  refine zr_ite (zI_eq rfl (zl_0) hr7 (by decide)) ?_ ?_
  · exact zr_of (zMod_begins_b24_r N _ hx2 _ hs7) (congr (congrArg (Mod_begins_b24 N) rfl) rfl)
  · exact zr_of (zMod_begins_b13_r N _ hx2 _ hs7) (congr (congrArg (Mod_begins_b13 N) rfl) rfl)
def zMod_begins (N : Nat) (x1 : Int) (x2 : Int) (σ : z_S) : Option (Int × z_S) := zMod_begins_b0 N x1 x2 σ
theorem zMod_begins_r (N : Nat) (x1 : Int) (hx1 : zin x1) (x2 : Int) (hx2 : zin x2) (σ : z_S) (hσ : zR σ) : zrel (zMod_begins N x1 x2 σ) (Mod_begins N (zI x1) (zI x2) (zo σ)) := by
  unfold zMod_begins Mod_begins
  exact zr_of (zMod_begins_b0_r N _ hx1 _ hx2 _ hσ) (congr (congr (congrArg (Mod_begins_b0 N) rfl) rfl) rfl)
