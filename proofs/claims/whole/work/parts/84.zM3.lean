def zMod_quantify_b371 (N : Nat) (σ : z_S) : Option (Int × z_S) := some (0, σ)
theorem zMod_quantify_b371_r (N : Nat) (σ : z_S) (hσ : zR σ) : zrel (zMod_quantify_b371 N σ) (Mod_quantify_b371 N (zo σ)) := by
  unfold zMod_quantify_b371 Mod_quantify_b371
  exact zr_some (zl_0) (by decide) rfl hσ
def zMod_quantify_b357 (N : Nat) (x3 : Int) (σ : z_S) : Option (Int × z_S) := if zIn (σ.1 14) 41 then (zMod_add N (σ.2 16 ((σ.1 14)).toNat) x3 σ).bind fun q368 => zMod_quantify_b371 N q368.2 else none
theorem zMod_quantify_b357_r (N : Nat) (x3 : Int) (hx3 : zin x3) (σ : z_S) (hσ : zR σ) : zrel (zMod_quantify_b357 N x3 σ) (Mod_quantify_b357 N (zI x3) (zo σ)) := by
  unfold zMod_quantify_b357 Mod_quantify_b357
  refine zr_gg (zg_in (zo_fld rfl 14) (hσ.1 14)) (fun g1 => ?_)
  refine zr_bind (zr_of (zMod_add_r N _ (hσ.2 16 _) _ hx3 _ hσ) (congr (congr (congrArg (Mod_add N) (zo_get (j := 16) rfl (zo_fld rfl 14) (hσ.1 14))) rfl) rfl)) (fun r368 s368σ hr368 hs368 => ?_)
  dsimp only
  exact zr_of (zMod_quantify_b371_r N  _ hs368) (congrArg (Mod_quantify_b371 N) rfl)
def zMod_quantify_b350 (N : Nat) (x3 : Int) (σ : z_S) : Option (Int × z_S) := if (0 : Int) ≤ (σ.1 12) then zMod_quantify_b371 N σ else zMod_quantify_b357 N x3 σ
theorem zMod_quantify_b350_r (N : Nat) (x3 : Int) (hx3 : zin x3) (σ : z_S) (hσ : zR σ) : zrel (zMod_quantify_b350 N x3 σ) (Mod_quantify_b350 N (zI x3) (zo σ)) := by
  unfold zMod_quantify_b350 Mod_quantify_b350
  refine zr_ite (zI_le (zl_0) (zo_fld rfl 12) (by decide) (hσ.1 12)) ?_ ?_
  · exact zr_of (zMod_quantify_b371_r N  _ hσ) (congrArg (Mod_quantify_b371 N) rfl)
  · exact zr_of (zMod_quantify_b357_r N _ hx3 _ hσ) (congr (congrArg (Mod_quantify_b357 N) rfl) rfl)
def zMod_quantify_b318 (N : Nat) (x1 : Int) (s1 : Int) (s2 : Int) (s3 : Int) (s4 : Int) (σ : z_S) : Option (Int × z_S) := (zMod_node N s1 s2 s3 s4 σ).bind fun q318 => if zIn x1 1300 then if zIn q318.1 1300 then (zMod_add N q318.1 x1 (zA (zA q318.2 10 (q318.1).toNat (q318.2.2 10 (x1).toNat)) 11 (q318.1).toNat (q318.2.1 9))).bind fun q347 => zMod_quantify_b350 N q318.1 q347.2 else none else none
theorem zMod_quantify_b318_r (N : Nat) (x1 : Int) (hx1 : zin x1) (s1 : Int) (hs1 : zin s1) (s2 : Int) (hs2 : zin s2) (s3 : Int) (hs3 : zin s3) (s4 : Int) (hs4 : zin s4) (σ : z_S) (hσ : zR σ) : zrel (zMod_quantify_b318 N x1 s1 s2 s3 s4 σ) (Mod_quantify_b318 N (zI x1) (zI s1) (zI s2) (zI s3) (zI s4) (zo σ)) := by
  unfold zMod_quantify_b318 Mod_quantify_b318
  refine zr_bind (zr_of (zMod_node_r N _ hs1 _ hs2 _ hs3 _ hs4 _ hσ) (congr (congr (congr (congr (congrArg (Mod_node N) rfl) rfl) rfl) rfl) rfl)) (fun r318 s318σ hr318 hs318 => ?_)
  dsimp only
  refine zr_gg (zg_in rfl hx1) (fun g1 => ?_)
  refine zr_gg (zg_in rfl hr318) (fun g2 => ?_)
  refine zr_bind (zr_of (zMod_add_r N _ hr318 _ hx1 _ (zR_A (a := 11) (i := _) (zR_A (a := 10) (i := _) hs318 (hs318.2 10 _)) (hs318.1 9))) (congr (congr (congrArg (Mod_add N) rfl) rfl) (zo_A (a := 11) (zo_A (a := 10) rfl rfl hr318 (zo_get (j := 10) rfl rfl hx1)) rfl hr318 (zo_fld rfl 9)))) (fun r347 s347σ hr347 hs347 => ?_)
  dsimp only
  exact zr_of (zMod_quantify_b350_r N _ hr318 _ hs347) (congr (congrArg (Mod_quantify_b350 N) rfl) rfl)
def zMod_quantify_b317 (N : Nat) (x1 : Int) (s1 : Int) (s2 : Int) (s3 : Int) (σ : z_S) : Option (Int × z_S) := zMod_quantify_b318 N x1 s1 s2 s3 0 σ
theorem zMod_quantify_b317_r (N : Nat) (x1 : Int) (hx1 : zin x1) (s1 : Int) (hs1 : zin s1) (s2 : Int) (hs2 : zin s2) (s3 : Int) (hs3 : zin s3) (σ : z_S) (hσ : zR σ) : zrel (zMod_quantify_b317 N x1 s1 s2 s3 σ) (Mod_quantify_b317 N (zI x1) (zI s1) (zI s2) (zI s3) (zo σ)) := by
  unfold zMod_quantify_b317 Mod_quantify_b317
  exact zr_of (zMod_quantify_b318_r N _ hx1 _ hs1 _ hs2 _ hs3 _ (by decide) _ hσ) (congr (congr (congr (congr (congr (congrArg (Mod_quantify_b318 N) rfl) rfl) rfl) rfl) (zl_0)) rfl)
def zMod_quantify_b313 (N : Nat) (x1 : Int) (s1 : Int) (s2 : Int) (s3 : Int) (σ : z_S) : Option (Int × z_S) := zMod_quantify_b318 N x1 s1 s2 s3 1 σ
theorem zMod_quantify_b313_r (N : Nat) (x1 : Int) (hx1 : zin x1) (s1 : Int) (hs1 : zin s1) (s2 : Int) (hs2 : zin s2) (s3 : Int) (hs3 : zin s3) (σ : z_S) (hσ : zR σ) : zrel (zMod_quantify_b313 N x1 s1 s2 s3 σ) (Mod_quantify_b313 N (zI x1) (zI s1) (zI s2) (zI s3) (zo σ)) := by
  unfold zMod_quantify_b313 Mod_quantify_b313
  exact zr_of (zMod_quantify_b318_r N _ hx1 _ hs1 _ hs2 _ hs3 _ (by decide) _ hσ) (congr (congr (congr (congr (congr (congrArg (Mod_quantify_b318 N) rfl) rfl) rfl) rfl) (zl_1)) rfl)
def zMod_quantify_b301 (N : Nat) (x1 : Int) (x5 : Int) (x6 : Int) (x8 : Int) (σ : z_S) : Option (Int × z_S) := if x8 = 0 then zMod_quantify_b317 N x1 16 x5 x6 σ else zMod_quantify_b313 N x1 16 x5 x6 σ
theorem zMod_quantify_b301_r (N : Nat) (x1 : Int) (hx1 : zin x1) (x5 : Int) (hx5 : zin x5) (x6 : Int) (hx6 : zin x6) (x8 : Int) (hx8 : zin x8) (σ : z_S) (hσ : zR σ) : zrel (zMod_quantify_b301 N x1 x5 x6 x8 σ) (Mod_quantify_b301 N (zI x1) (zI x5) (zI x6) (zI x8) (zo σ)) := by
  unfold zMod_quantify_b301 Mod_quantify_b301
  refine zr_ite (zI_eq rfl (zl_0) hx8 (by decide)) ?_ ?_
  · exact zr_of (zMod_quantify_b317_r N _ hx1 _ (by decide) _ hx5 _ hx6 _ hσ) (congr (congr (congr (congr (congrArg (Mod_quantify_b317 N) rfl) (zl_16)) rfl) rfl) rfl)
  · exact zr_of (zMod_quantify_b313_r N _ hx1 _ (by decide) _ hx5 _ hx6 _ hσ) (congr (congr (congr (congr (congrArg (Mod_quantify_b313 N) rfl) (zl_16)) rfl) rfl) rfl)
def zMod_quantify_b291 (N : Nat) (x1 : Int) (x5 : Int) (x6 : Int) (x8 : Int) (σ : z_S) : Option (Int × z_S) := if zin ((σ.1 11) + 1) then zMod_quantify_b301 N x1 x5 x6 x8 (zF σ 11 ((σ.1 11) + 1)) else none
theorem zMod_quantify_b291_r (N : Nat) (x1 : Int) (hx1 : zin x1) (x5 : Int) (hx5 : zin x5) (x6 : Int) (hx6 : zin x6) (x8 : Int) (hx8 : zin x8) (σ : z_S) (hσ : zR σ) : zrel (zMod_quantify_b291 N x1 x5 x6 x8 σ) (Mod_quantify_b291 N (zI x1) (zI x5) (zI x6) (zI x8) (zo σ)) := by
  unfold zMod_quantify_b291 Mod_quantify_b291
  refine zr_g (fun g1 => ?_)
  exact zr_of (zMod_quantify_b301_r N _ hx1 _ hx5 _ hx6 _ hx8 _ (zR_F (k := 11) hσ g1)) (congr (congr (congr (congr (congrArg (Mod_quantify_b301 N) rfl) rfl) rfl) rfl) (zo_F (k := 11) rfl (zI_add (zo_fld rfl 11) (zl_1))))
def zMod_quantify_b284 (N : Nat) (x1 : Int) (x5 : Int) (x6 : Int) (s0 : Int) (σ : z_S) : Option (Int × z_S) := if s0 = 0 then zMod_quantify_b301 N x1 x5 x6 s0 σ else zMod_quantify_b291 N x1 x5 x6 s0 σ
theorem zMod_quantify_b284_r (N : Nat) (x1 : Int) (hx1 : zin x1) (x5 : Int) (hx5 : zin x5) (x6 : Int) (hx6 : zin x6) (s0 : Int) (hs0 : zin s0) (σ : z_S) (hσ : zR σ) : zrel (zMod_quantify_b284 N x1 x5 x6 s0 σ) (Mod_quantify_b284 N (zI x1) (zI x5) (zI x6) (zI s0) (zo σ)) := by
  unfold zMod_quantify_b284 Mod_quantify_b284
  refine zr_ite (zI_eq rfl (zl_0) hs0 (by decide)) ?_ ?_
  · exact zr_of (zMod_quantify_b301_r N _ hx1 _ hx5 _ hx6 _ hs0 _ hσ) (congr (congr (congr (congr (congrArg (Mod_quantify_b301 N) rfl) rfl) rfl) rfl) rfl)
  · exact zr_of (zMod_quantify_b291_r N _ hx1 _ hx5 _ hx6 _ hs0 _ hσ) (congr (congr (congr (congr (congrArg (Mod_quantify_b291 N) rfl) rfl) rfl) rfl) rfl)
def zMod_quantify_b283 (N : Nat) (x1 : Int) (x5 : Int) (x6 : Int) (σ : z_S) : Option (Int × z_S) := zMod_quantify_b284 N x1 x5 x6 0 σ
theorem zMod_quantify_b283_r (N : Nat) (x1 : Int) (hx1 : zin x1) (x5 : Int) (hx5 : zin x5) (x6 : Int) (hx6 : zin x6) (σ : z_S) (hσ : zR σ) : zrel (zMod_quantify_b283 N x1 x5 x6 σ) (Mod_quantify_b283 N (zI x1) (zI x5) (zI x6) (zo σ)) := by
  unfold zMod_quantify_b283 Mod_quantify_b283
  exact zr_of (zMod_quantify_b284_r N _ hx1 _ hx5 _ hx6 _ (by decide) _ hσ) (congr (congr (congr (congr (congrArg (Mod_quantify_b284 N) rfl) rfl) rfl) (zl_0)) rfl)
def zMod_quantify_b279 (N : Nat) (x1 : Int) (x5 : Int) (x6 : Int) (σ : z_S) : Option (Int × z_S) := zMod_quantify_b284 N x1 x5 x6 1 σ
theorem zMod_quantify_b279_r (N : Nat) (x1 : Int) (hx1 : zin x1) (x5 : Int) (hx5 : zin x5) (x6 : Int) (hx6 : zin x6) (σ : z_S) (hσ : zR σ) : zrel (zMod_quantify_b279 N x1 x5 x6 σ) (Mod_quantify_b279 N (zI x1) (zI x5) (zI x6) (zo σ)) := by
  unfold zMod_quantify_b279 Mod_quantify_b279
  exact zr_of (zMod_quantify_b284_r N _ hx1 _ hx5 _ hx6 _ (by decide) _ hσ) (congr (congr (congr (congr (congrArg (Mod_quantify_b284 N) rfl) rfl) rfl) (zl_1)) rfl)
def zMod_quantify_b269 (N : Nat) (x1 : Int) (x5 : Int) (x6 : Int) (σ : z_S) : Option (Int × z_S) := (zMod_see N 0 σ).bind fun q271 => if q271.1 = 63 then zMod_quantify_b279 N x1 x5 x6 q271.2 else zMod_quantify_b283 N x1 x5 x6 q271.2
theorem zMod_quantify_b269_r (N : Nat) (x1 : Int) (hx1 : zin x1) (x5 : Int) (hx5 : zin x5) (x6 : Int) (hx6 : zin x6) (σ : z_S) (hσ : zR σ) : zrel (zMod_quantify_b269 N x1 x5 x6 σ) (Mod_quantify_b269 N (zI x1) (zI x5) (zI x6) (zo σ)) := by
  unfold zMod_quantify_b269 Mod_quantify_b269
  refine zr_bind (zr_of (zMod_see_r N _ (by decide) _ hσ) (congr (congrArg (Mod_see N) (zl_0)) rfl)) (fun r271 s271σ hr271 hs271 => ?_)
  dsimp only
  refine zr_ite (zI_eq rfl (zl_63) hr271 (by decide)) ?_ ?_
  · exact zr_of (zMod_quantify_b279_r N _ hx1 _ hx5 _ hx6 _ hs271) (congr (congr (congr (congrArg (Mod_quantify_b279 N) rfl) rfl) rfl) rfl)
  · exact zr_of (zMod_quantify_b283_r N _ hx1 _ hx5 _ hx6 _ hs271) (congr (congr (congr (congrArg (Mod_quantify_b283 N) rfl) rfl) rfl) rfl)
def zMod_quantify_b264 (N : Nat) (x1 : Int) (x3 : Int) (x5 : Int) (x6 : Int) (x7 : Int) (σ : z_S) : Option (Int × z_S) := if x7 = 0 then zMod_quantify_b350 N x3 σ else zMod_quantify_b269 N x1 x5 x6 σ
theorem zMod_quantify_b264_r (N : Nat) (x1 : Int) (hx1 : zin x1) (x3 : Int) (hx3 : zin x3) (x5 : Int) (hx5 : zin x5) (x6 : Int) (hx6 : zin x6) (x7 : Int) (hx7 : zin x7) (σ : z_S) (hσ : zR σ) : zrel (zMod_quantify_b264 N x1 x3 x5 x6 x7 σ) (Mod_quantify_b264 N (zI x1) (zI x3) (zI x5) (zI x6) (zI x7) (zo σ)) := by
  unfold zMod_quantify_b264 Mod_quantify_b264
  refine zr_ite (zI_eq rfl (zl_0) hx7 (by decide)) ?_ ?_
  · exact zr_of (zMod_quantify_b350_r N _ hx3 _ hσ) (congr (congrArg (Mod_quantify_b350 N) rfl) rfl)
  · exact zr_of (zMod_quantify_b269_r N _ hx1 _ hx5 _ hx6 _ hσ) (congr (congr (congr (congrArg (Mod_quantify_b269 N) rfl) rfl) rfl) rfl)
def zMod_quantify_b254 (N : Nat) (x1 : Int) (x3 : Int) (x5 : Int) (x6 : Int) (x7 : Int) (σ : z_S) : Option (Int × z_S) := if zin ((σ.1 11) + 1) then zMod_quantify_b264 N x1 x3 x5 x6 x7 (zF σ 11 ((σ.1 11) + 1)) else none
theorem zMod_quantify_b254_r (N : Nat) (x1 : Int) (hx1 : zin x1) (x3 : Int) (hx3 : zin x3) (x5 : Int) (hx5 : zin x5) (x6 : Int) (hx6 : zin x6) (x7 : Int) (hx7 : zin x7) (σ : z_S) (hσ : zR σ) : zrel (zMod_quantify_b254 N x1 x3 x5 x6 x7 σ) (Mod_quantify_b254 N (zI x1) (zI x3) (zI x5) (zI x6) (zI x7) (zo σ)) := by
  unfold zMod_quantify_b254 Mod_quantify_b254
  refine zr_g (fun g1 => ?_)
  exact zr_of (zMod_quantify_b264_r N _ hx1 _ hx3 _ hx5 _ hx6 _ hx7 _ (zR_F (k := 11) hσ g1)) (congr (congr (congr (congr (congr (congrArg (Mod_quantify_b264 N) rfl) rfl) rfl) rfl) rfl) (zo_F (k := 11) rfl (zI_add (zo_fld rfl 11) (zl_1))))
def zMod_quantify_b251 (N : Nat) (x1 : Int) (x3 : Int) (x5 : Int) (x6 : Int) (x7 : Int) (s1 : Int) (σ : z_S) : Option (Int × z_S) := (zMod_fail N s1 σ).bind fun q251 => zMod_quantify_b254 N x1 x3 x5 x6 x7 q251.2
theorem zMod_quantify_b251_r (N : Nat) (x1 : Int) (hx1 : zin x1) (x3 : Int) (hx3 : zin x3) (x5 : Int) (hx5 : zin x5) (x6 : Int) (hx6 : zin x6) (x7 : Int) (hx7 : zin x7) (s1 : Int) (hs1 : zin s1) (σ : z_S) (hσ : zR σ) : zrel (zMod_quantify_b251 N x1 x3 x5 x6 x7 s1 σ) (Mod_quantify_b251 N (zI x1) (zI x3) (zI x5) (zI x6) (zI x7) (zI s1) (zo σ)) := by
  unfold zMod_quantify_b251 Mod_quantify_b251
  refine zr_bind (zr_of (zMod_fail_r N _ hs1 _ hσ) (congr (congrArg (Mod_fail N) rfl) rfl)) (fun r251 s251σ hr251 hs251 => ?_)
  dsimp only
  exact zr_of (zMod_quantify_b254_r N _ hx1 _ hx3 _ hx5 _ hx6 _ hx7 _ hs251) (congr (congr (congr (congr (congr (congrArg (Mod_quantify_b254 N) rfl) rfl) rfl) rfl) rfl) rfl)
def zMod_quantify_b247 (N : Nat) (x1 : Int) (x3 : Int) (x5 : Int) (x6 : Int) (x7 : Int) (σ : z_S) : Option (Int × z_S) := zMod_quantify_b251 N x1 x3 x5 x6 x7 (σ.1 2) σ
theorem zMod_quantify_b247_r (N : Nat) (x1 : Int) (hx1 : zin x1) (x3 : Int) (hx3 : zin x3) (x5 : Int) (hx5 : zin x5) (x6 : Int) (hx6 : zin x6) (x7 : Int) (hx7 : zin x7) (σ : z_S) (hσ : zR σ) : zrel (zMod_quantify_b247 N x1 x3 x5 x6 x7 σ) (Mod_quantify_b247 N (zI x1) (zI x3) (zI x5) (zI x6) (zI x7) (zo σ)) := by
  unfold zMod_quantify_b247 Mod_quantify_b247
  exact zr_of (zMod_quantify_b251_r N _ hx1 _ hx3 _ hx5 _ hx6 _ hx7 _ (hσ.1 2) _ hσ) (congr (congr (congr (congr (congr (congr (congrArg (Mod_quantify_b251 N) rfl) rfl) rfl) rfl) rfl) (zo_fld rfl 2)) rfl)
def zMod_quantify_b240 (N : Nat) (x1 : Int) (x3 : Int) (x5 : Int) (x6 : Int) (x7 : Int) (σ : z_S) : Option (Int × z_S) := zMod_quantify_b251 N x1 x3 x5 x6 x7 (σ.1 11) σ
theorem zMod_quantify_b240_r (N : Nat) (x1 : Int) (hx1 : zin x1) (x3 : Int) (hx3 : zin x3) (x5 : Int) (hx5 : zin x5) (x6 : Int) (hx6 : zin x6) (x7 : Int) (hx7 : zin x7) (σ : z_S) (hσ : zR σ) : zrel (zMod_quantify_b240 N x1 x3 x5 x6 x7 σ) (Mod_quantify_b240 N (zI x1) (zI x3) (zI x5) (zI x6) (zI x7) (zo σ)) := by
  unfold zMod_quantify_b240 Mod_quantify_b240
  exact zr_of (zMod_quantify_b251_r N _ hx1 _ hx3 _ hx5 _ hx6 _ hx7 _ (hσ.1 11) _ hσ) (congr (congr (congr (congr (congr (congr (congrArg (Mod_quantify_b251 N) rfl) rfl) rfl) rfl) rfl) (zo_fld rfl 11)) rfl)
def zMod_quantify_b228 (N : Nat) (x1 : Int) (x3 : Int) (x5 : Int) (x6 : Int) (x7 : Int) (σ : z_S) : Option (Int × z_S) := if (σ.1 2) ≤ (σ.1 11) then zMod_quantify_b247 N x1 x3 x5 x6 x7 σ else zMod_quantify_b240 N x1 x3 x5 x6 x7 σ
theorem zMod_quantify_b228_r (N : Nat) (x1 : Int) (hx1 : zin x1) (x3 : Int) (hx3 : zin x3) (x5 : Int) (hx5 : zin x5) (x6 : Int) (hx6 : zin x6) (x7 : Int) (hx7 : zin x7) (σ : z_S) (hσ : zR σ) : zrel (zMod_quantify_b228 N x1 x3 x5 x6 x7 σ) (Mod_quantify_b228 N (zI x1) (zI x3) (zI x5) (zI x6) (zI x7) (zo σ)) := by
  unfold zMod_quantify_b228 Mod_quantify_b228
  refine zr_ite (zI_le (zo_fld rfl 2) (zo_fld rfl 11) (hσ.1 2) (hσ.1 11)) ?_ ?_
  · exact zr_of (zMod_quantify_b247_r N _ hx1 _ hx3 _ hx5 _ hx6 _ hx7 _ hσ) (congr (congr (congr (congr (congr (congrArg (Mod_quantify_b247 N) rfl) rfl) rfl) rfl) rfl) rfl)
  · exact zr_of (zMod_quantify_b240_r N _ hx1 _ hx3 _ hx5 _ hx6 _ hx7 _ hσ) (congr (congr (congr (congr (congr (congrArg (Mod_quantify_b240 N) rfl) rfl) rfl) rfl) rfl) rfl)
def zMod_quantify_b218 (N : Nat) (x1 : Int) (x3 : Int) (x5 : Int) (x6 : Int) (x7 : Int) (σ : z_S) : Option (Int × z_S) := (zMod_see N 0 σ).bind fun q220 => if q220.1 = 125 then zMod_quantify_b254 N x1 x3 x5 x6 x7 q220.2 else zMod_quantify_b228 N x1 x3 x5 x6 x7 q220.2
theorem zMod_quantify_b218_r (N : Nat) (x1 : Int) (hx1 : zin x1) (x3 : Int) (hx3 : zin x3) (x5 : Int) (hx5 : zin x5) (x6 : Int) (hx6 : zin x6) (x7 : Int) (hx7 : zin x7) (σ : z_S) (hσ : zR σ) : zrel (zMod_quantify_b218 N x1 x3 x5 x6 x7 σ) (Mod_quantify_b218 N (zI x1) (zI x3) (zI x5) (zI x6) (zI x7) (zo σ)) := by
  unfold zMod_quantify_b218 Mod_quantify_b218
  refine zr_bind (zr_of (zMod_see_r N _ (by decide) _ hσ) (congr (congrArg (Mod_see N) (zl_0)) rfl)) (fun r220 s220σ hr220 hs220 => ?_)
  dsimp only
  refine zr_ite (zI_eq rfl (zl_125) hr220 (by decide)) ?_ ?_
  · exact zr_of (zMod_quantify_b254_r N _ hx1 _ hx3 _ hx5 _ hx6 _ hx7 _ hs220) (congr (congr (congr (congr (congr (congrArg (Mod_quantify_b254 N) rfl) rfl) rfl) rfl) rfl) rfl)
  · exact zr_of (zMod_quantify_b228_r N _ hx1 _ hx3 _ hx5 _ hx6 _ hx7 _ hs220) (congr (congr (congr (congr (congr (congrArg (Mod_quantify_b228 N) rfl) rfl) rfl) rfl) rfl) rfl)
def zMod_quantify_b212 (N : Nat) (x1 : Int) (x3 : Int) (x4 : Int) (x5 : Int) (x6 : Int) (x7 : Int) (σ : z_S) : Option (Int × z_S) := (zMod_fail N x4 σ).bind fun q215 => zMod_quantify_b218 N x1 x3 x5 x6 x7 q215.2
theorem zMod_quantify_b212_r (N : Nat) (x1 : Int) (hx1 : zin x1) (x3 : Int) (hx3 : zin x3) (x4 : Int) (hx4 : zin x4) (x5 : Int) (hx5 : zin x5) (x6 : Int) (hx6 : zin x6) (x7 : Int) (hx7 : zin x7) (σ : z_S) (hσ : zR σ) : zrel (zMod_quantify_b212 N x1 x3 x4 x5 x6 x7 σ) (Mod_quantify_b212 N (zI x1) (zI x3) (zI x4) (zI x5) (zI x6) (zI x7) (zo σ)) := by
  unfold zMod_quantify_b212 Mod_quantify_b212
  refine zr_bind (zr_of (zMod_fail_r N _ hx4 _ hσ) (congr (congrArg (Mod_fail N) rfl) rfl)) (fun r215 s215σ hr215 hs215 => ?_)
  dsimp only
  exact zr_of (zMod_quantify_b218_r N _ hx1 _ hx3 _ hx5 _ hx6 _ hx7 _ hs215) (congr (congr (congr (congr (congr (congrArg (Mod_quantify_b218 N) rfl) rfl) rfl) rfl) rfl) rfl)
def zMod_quantify_b195 (N : Nat) (x1 : Int) (x3 : Int) (x4 : Int) (x5 : Int) (x6 : Int) (x7 : Int) (x8 : Int) (x9 : Int) (x10 : Int) (σ : z_S) : Option (Int × z_S) := (zMod_isAbove N x8 x9 x10 (σ.1 11) σ).bind fun q206 => if q206.1 = 0 then zMod_quantify_b218 N x1 x3 x5 x6 x7 q206.2 else zMod_quantify_b212 N x1 x3 x4 x5 x6 x7 q206.2
theorem zMod_quantify_b195_r (N : Nat) (x1 : Int) (hx1 : zin x1) (x3 : Int) (hx3 : zin x3) (x4 : Int) (hx4 : zin x4) (x5 : Int) (hx5 : zin x5) (x6 : Int) (hx6 : zin x6) (x7 : Int) (hx7 : zin x7) (x8 : Int) (hx8 : zin x8) (x9 : Int) (hx9 : zin x9) (x10 : Int) (hx10 : zin x10) (σ : z_S) (hσ : zR σ) : zrel (zMod_quantify_b195 N x1 x3 x4 x5 x6 x7 x8 x9 x10 σ) (Mod_quantify_b195 N (zI x1) (zI x3) (zI x4) (zI x5) (zI x6) (zI x7) (zI x8) (zI x9) (zI x10) (zo σ)) := by
  unfold zMod_quantify_b195 Mod_quantify_b195
  refine zr_bind (zr_of (zMod_isAbove_r N _ hx8 _ hx9 _ hx10 _ (hσ.1 11) _ hσ) (congr (congr (congr (congr (congrArg (Mod_isAbove N) rfl) rfl) rfl) (zo_fld rfl 11)) rfl)) (fun r206 s206σ hr206 hs206 => ?_)
  dsimp only
  refine zr_ite (zI_eq rfl (zl_0) hr206 (by decide)) ?_ ?_
  · exact zr_of (zMod_quantify_b218_r N _ hx1 _ hx3 _ hx5 _ hx6 _ hx7 _ hs206) (congr (congr (congr (congr (congr (congrArg (Mod_quantify_b218 N) rfl) rfl) rfl) rfl) rfl) rfl)
  · exact zr_of (zMod_quantify_b212_r N _ hx1 _ hx3 _ hx4 _ hx5 _ hx6 _ hx7 _ hs206) (congr (congr (congr (congr (congr (congr (congrArg (Mod_quantify_b212 N) rfl) rfl) rfl) rfl) rfl) rfl) rfl)
def zMod_quantify_b186 (N : Nat) (x1 : Int) (x3 : Int) (x4 : Int) (x5 : Int) (x6 : Int) (x7 : Int) (x8 : Int) (x9 : Int) (x10 : Int) (σ : z_S) : Option (Int × z_S) := if (σ.1 11) ≤ x10 then zMod_quantify_b218 N x1 x3 x5 x6 x7 σ else zMod_quantify_b195 N x1 x3 x4 x5 x6 x7 x8 x9 x10 σ
theorem zMod_quantify_b186_r (N : Nat) (x1 : Int) (hx1 : zin x1) (x3 : Int) (hx3 : zin x3) (x4 : Int) (hx4 : zin x4) (x5 : Int) (hx5 : zin x5) (x6 : Int) (hx6 : zin x6) (x7 : Int) (hx7 : zin x7) (x8 : Int) (hx8 : zin x8) (x9 : Int) (hx9 : zin x9) (x10 : Int) (hx10 : zin x10) (σ : z_S) (hσ : zR σ) : zrel (zMod_quantify_b186 N x1 x3 x4 x5 x6 x7 x8 x9 x10 σ) (Mod_quantify_b186 N (zI x1) (zI x3) (zI x4) (zI x5) (zI x6) (zI x7) (zI x8) (zI x9) (zI x10) (zo σ)) := by
  unfold zMod_quantify_b186 Mod_quantify_b186
  refine zr_ite (zI_le (zo_fld rfl 11) rfl (hσ.1 11) hx10) ?_ ?_
  · exact zr_of (zMod_quantify_b218_r N _ hx1 _ hx3 _ hx5 _ hx6 _ hx7 _ hσ) (congr (congr (congr (congr (congr (congrArg (Mod_quantify_b218 N) rfl) rfl) rfl) rfl) rfl) rfl)
  · exact zr_of (zMod_quantify_b195_r N _ hx1 _ hx3 _ hx4 _ hx5 _ hx6 _ hx7 _ hx8 _ hx9 _ hx10 _ hσ) (congr (congr (congr (congr (congr (congr (congr (congr (congr (congrArg (Mod_quantify_b195 N) rfl) rfl) rfl) rfl) rfl) rfl) rfl) rfl) rfl) rfl)
def zMod_quantify_b176 (N : Nat) (x1 : Int) (x3 : Int) (x4 : Int) (x5 : Int) (x6 : Int) (x7 : Int) (x8 : Int) (x9 : Int) (x10 : Int) (σ : z_S) : Option (Int × z_S) := (zMod_see N 0 σ).bind fun q178 => if q178.1 = 125 then zMod_quantify_b186 N x1 x3 x4 x5 x6 x7 x8 x9 x10 q178.2 else zMod_quantify_b218 N x1 x3 x5 x6 x7 q178.2
theorem zMod_quantify_b176_r (N : Nat) (x1 : Int) (hx1 : zin x1) (x3 : Int) (hx3 : zin x3) (x4 : Int) (hx4 : zin x4) (x5 : Int) (hx5 : zin x5) (x6 : Int) (hx6 : zin x6) (x7 : Int) (hx7 : zin x7) (x8 : Int) (hx8 : zin x8) (x9 : Int) (hx9 : zin x9) (x10 : Int) (hx10 : zin x10) (σ : z_S) (hσ : zR σ) : zrel (zMod_quantify_b176 N x1 x3 x4 x5 x6 x7 x8 x9 x10 σ) (Mod_quantify_b176 N (zI x1) (zI x3) (zI x4) (zI x5) (zI x6) (zI x7) (zI x8) (zI x9) (zI x10) (zo σ)) := by
  unfold zMod_quantify_b176 Mod_quantify_b176
  refine zr_bind (zr_of (zMod_see_r N _ (by decide) _ hσ) (congr (congrArg (Mod_see N) (zl_0)) rfl)) (fun r178 s178σ hr178 hs178 => ?_)
  dsimp only
  refine zr_ite (zI_eq rfl (zl_125) hr178 (by decide)) ?_ ?_
  · exact zr_of (zMod_quantify_b186_r N _ hx1 _ hx3 _ hx4 _ hx5 _ hx6 _ hx7 _ hx8 _ hx9 _ hx10 _ hs178) (congr (congr (congr (congr (congr (congr (congr (congr (congr (congrArg (Mod_quantify_b186 N) rfl) rfl) rfl) rfl) rfl) rfl) rfl) rfl) rfl) rfl)
  · exact zr_of (zMod_quantify_b218_r N _ hx1 _ hx3 _ hx5 _ hx6 _ hx7 _ hs178) (congr (congr (congr (congr (congr (congrArg (Mod_quantify_b218 N) rfl) rfl) rfl) rfl) rfl) rfl)
def zMod_quantify_b167 (N : Nat) (x1 : Int) (x3 : Int) (x4 : Int) (x5 : Int) (x7 : Int) (x8 : Int) (x9 : Int) (x10 : Int) (s0 : Int) (σ : z_S) : Option (Int × z_S) := if (0 : Int) ≤ (σ.1 12) then zMod_quantify_b218 N x1 x3 x5 s0 x7 σ else zMod_quantify_b176 N x1 x3 x4 x5 s0 x7 x8 x9 x10 σ
theorem zMod_quantify_b167_r (N : Nat) (x1 : Int) (hx1 : zin x1) (x3 : Int) (hx3 : zin x3) (x4 : Int) (hx4 : zin x4) (x5 : Int) (hx5 : zin x5) (x7 : Int) (hx7 : zin x7) (x8 : Int) (hx8 : zin x8) (x9 : Int) (hx9 : zin x9) (x10 : Int) (hx10 : zin x10) (s0 : Int) (hs0 : zin s0) (σ : z_S) (hσ : zR σ) : zrel (zMod_quantify_b167 N x1 x3 x4 x5 x7 x8 x9 x10 s0 σ) (Mod_quantify_b167 N (zI x1) (zI x3) (zI x4) (zI x5) (zI x7) (zI x8) (zI x9) (zI x10) (zI s0) (zo σ)) := by
  unfold zMod_quantify_b167 Mod_quantify_b167
  refine zr_ite (zI_le (zl_0) (zo_fld rfl 12) (by decide) (hσ.1 12)) ?_ ?_
  · exact zr_of (zMod_quantify_b218_r N _ hx1 _ hx3 _ hx5 _ hs0 _ hx7 _ hσ) (congr (congr (congr (congr (congr (congrArg (Mod_quantify_b218 N) rfl) rfl) rfl) rfl) rfl) rfl)
  · exact zr_of (zMod_quantify_b176_r N _ hx1 _ hx3 _ hx4 _ hx5 _ hs0 _ hx7 _ hx8 _ hx9 _ hx10 _ hσ) (congr (congr (congr (congr (congr (congr (congr (congr (congr (congrArg (Mod_quantify_b176 N) rfl) rfl) rfl) rfl) rfl) rfl) rfl) rfl) rfl) rfl)
def zMod_quantify_b163 (N : Nat) (x1 : Int) (x3 : Int) (x4 : Int) (x5 : Int) (x7 : Int) (x8 : Int) (x9 : Int) (x10 : Int) (σ : z_S) : Option (Int × z_S) := (zMod_number N σ).bind fun q164 => zMod_quantify_b167 N x1 x3 x4 x5 x7 x8 x9 x10 q164.1 q164.2
theorem zMod_quantify_b163_r (N : Nat) (x1 : Int) (hx1 : zin x1) (x3 : Int) (hx3 : zin x3) (x4 : Int) (hx4 : zin x4) (x5 : Int) (hx5 : zin x5) (x7 : Int) (hx7 : zin x7) (x8 : Int) (hx8 : zin x8) (x9 : Int) (hx9 : zin x9) (x10 : Int) (hx10 : zin x10) (σ : z_S) (hσ : zR σ) : zrel (zMod_quantify_b163 N x1 x3 x4 x5 x7 x8 x9 x10 σ) (Mod_quantify_b163 N (zI x1) (zI x3) (zI x4) (zI x5) (zI x7) (zI x8) (zI x9) (zI x10) (zo σ)) := by
  unfold zMod_quantify_b163 Mod_quantify_b163
  refine zr_bind (zr_of (zMod_number_r N  _ hσ) (congrArg (Mod_number N) rfl)) (fun r164 s164σ hr164 hs164 => ?_)
  dsimp only
  exact zr_of (zMod_quantify_b167_r N _ hx1 _ hx3 _ hx4 _ hx5 _ hx7 _ hx8 _ hx9 _ hx10 _ hr164 _ hs164) (congr (congr (congr (congr (congr (congr (congr (congr (congr (congrArg (Mod_quantify_b167 N) rfl) rfl) rfl) rfl) rfl) rfl) rfl) rfl) rfl) rfl)
def zMod_quantify_b158 (N : Nat) (x1 : Int) (x3 : Int) (x4 : Int) (x5 : Int) (x7 : Int) (x8 : Int) (x9 : Int) (x10 : Int) (σ : z_S) : Option (Int × z_S) := zMod_quantify_b167 N x1 x3 x4 x5 x7 x8 x9 x10 1000000 σ
theorem zMod_quantify_b158_r (N : Nat) (x1 : Int) (hx1 : zin x1) (x3 : Int) (hx3 : zin x3) (x4 : Int) (hx4 : zin x4) (x5 : Int) (hx5 : zin x5) (x7 : Int) (hx7 : zin x7) (x8 : Int) (hx8 : zin x8) (x9 : Int) (hx9 : zin x9) (x10 : Int) (hx10 : zin x10) (σ : z_S) (hσ : zR σ) : zrel (zMod_quantify_b158 N x1 x3 x4 x5 x7 x8 x9 x10 σ) (Mod_quantify_b158 N (zI x1) (zI x3) (zI x4) (zI x5) (zI x7) (zI x8) (zI x9) (zI x10) (zo σ)) := by
  unfold zMod_quantify_b158 Mod_quantify_b158
  exact zr_of (zMod_quantify_b167_r N _ hx1 _ hx3 _ hx4 _ hx5 _ hx7 _ hx8 _ hx9 _ hx10 _ (by decide) _ hσ) (congr (congr (congr (congr (congr (congr (congr (congr (congr (congrArg (Mod_quantify_b167 N) rfl) rfl) rfl) rfl) rfl) rfl) rfl) rfl) (zl_1000000)) rfl)
def zMod_quantify_b132 (N : Nat) (x1 : Int) (x3 : Int) (x4 : Int) (x5 : Int) (x7 : Int) (x8 : Int) (x9 : Int) (σ : z_S) : Option (Int × z_S) := if zin ((σ.1 11) + 1) then (zMod_see N 0 (zF σ 11 ((σ.1 11) + 1))).bind fun q150 => if q150.1 = 125 then zMod_quantify_b158 N x1 x3 x4 x5 x7 x8 x9 ((σ.1 11) + 1) q150.2 else zMod_quantify_b163 N x1 x3 x4 x5 x7 x8 x9 ((σ.1 11) + 1) q150.2 else none
theorem zMod_quantify_b132_r (N : Nat) (x1 : Int) (hx1 : zin x1) (x3 : Int) (hx3 : zin x3) (x4 : Int) (hx4 : zin x4) (x5 : Int) (hx5 : zin x5) (x7 : Int) (hx7 : zin x7) (x8 : Int) (hx8 : zin x8) (x9 : Int) (hx9 : zin x9) (σ : z_S) (hσ : zR σ) : zrel (zMod_quantify_b132 N x1 x3 x4 x5 x7 x8 x9 σ) (Mod_quantify_b132 N (zI x1) (zI x3) (zI x4) (zI x5) (zI x7) (zI x8) (zI x9) (zo σ)) := by
  unfold zMod_quantify_b132 Mod_quantify_b132
  refine zr_g (fun g1 => ?_)
  refine zr_bind (zr_of (zMod_see_r N _ (by decide) _ (zR_F (k := 11) hσ g1)) (congr (congrArg (Mod_see N) (zl_0)) (zo_F (k := 11) rfl (zI_add (zo_fld rfl 11) (zl_1))))) (fun r150 s150σ hr150 hs150 => ?_)
  dsimp only
  refine zr_ite (zI_eq rfl (zl_125) hr150 (by decide)) ?_ ?_
  · exact zr_of (zMod_quantify_b158_r N _ hx1 _ hx3 _ hx4 _ hx5 _ hx7 _ hx8 _ hx9 _ g1 _ hs150) (congr (congr (congr (congr (congr (congr (congr (congr (congrArg (Mod_quantify_b158 N) rfl) rfl) rfl) rfl) rfl) rfl) rfl) (zI_add (zo_fld rfl 11) (zl_1))) rfl)
  · exact zr_of (zMod_quantify_b163_r N _ hx1 _ hx3 _ hx4 _ hx5 _ hx7 _ hx8 _ hx9 _ g1 _ hs150) (congr (congr (congr (congr (congr (congr (congr (congr (congrArg (Mod_quantify_b163 N) rfl) rfl) rfl) rfl) rfl) rfl) rfl) (zI_add (zo_fld rfl 11) (zl_1))) rfl)
def zMod_quantify_b122 (N : Nat) (x1 : Int) (x3 : Int) (x4 : Int) (x5 : Int) (x6 : Int) (x7 : Int) (x8 : Int) (x9 : Int) (σ : z_S) : Option (Int × z_S) := (zMod_see N 0 σ).bind fun q124 => if q124.1 = 44 then zMod_quantify_b132 N x1 x3 x4 x5 x7 x8 x9 q124.2 else zMod_quantify_b218 N x1 x3 x5 x6 x7 q124.2
theorem zMod_quantify_b122_r (N : Nat) (x1 : Int) (hx1 : zin x1) (x3 : Int) (hx3 : zin x3) (x4 : Int) (hx4 : zin x4) (x5 : Int) (hx5 : zin x5) (x6 : Int) (hx6 : zin x6) (x7 : Int) (hx7 : zin x7) (x8 : Int) (hx8 : zin x8) (x9 : Int) (hx9 : zin x9) (σ : z_S) (hσ : zR σ) : zrel (zMod_quantify_b122 N x1 x3 x4 x5 x6 x7 x8 x9 σ) (Mod_quantify_b122 N (zI x1) (zI x3) (zI x4) (zI x5) (zI x6) (zI x7) (zI x8) (zI x9) (zo σ)) := by
  unfold zMod_quantify_b122 Mod_quantify_b122
  refine zr_bind (zr_of (zMod_see_r N _ (by decide) _ hσ) (congr (congrArg (Mod_see N) (zl_0)) rfl)) (fun r124 s124σ hr124 hs124 => ?_)
  dsimp only
  refine zr_ite (zI_eq rfl (zl_44) hr124 (by decide)) ?_ ?_
  · exact zr_of (zMod_quantify_b132_r N _ hx1 _ hx3 _ hx4 _ hx5 _ hx7 _ hx8 _ hx9 _ hs124) (congr (congr (congr (congr (congr (congr (congr (congrArg (Mod_quantify_b132 N) rfl) rfl) rfl) rfl) rfl) rfl) rfl) rfl)
  · exact zr_of (zMod_quantify_b218_r N _ hx1 _ hx3 _ hx5 _ hx6 _ hx7 _ hs124) (congr (congr (congr (congr (congr (congrArg (Mod_quantify_b218 N) rfl) rfl) rfl) rfl) rfl) rfl)
def zMod_quantify_b93 (N : Nat) (x1 : Int) (x3 : Int) (x4 : Int) (x7 : Int) (σ : z_S) : Option (Int × z_S) := (zMod_number N σ).bind fun q100 => if (0 : Int) ≤ (q100.2.1 12) then zMod_quantify_b218 N x1 x3 q100.1 q100.1 x7 q100.2 else zMod_quantify_b122 N x1 x3 x4 q100.1 q100.1 x7 (σ.1 11) (q100.2.1 11) q100.2
theorem zMod_quantify_b93_r (N : Nat) (x1 : Int) (hx1 : zin x1) (x3 : Int) (hx3 : zin x3) (x4 : Int) (hx4 : zin x4) (x7 : Int) (hx7 : zin x7) (σ : z_S) (hσ : zR σ) : zrel (zMod_quantify_b93 N x1 x3 x4 x7 σ) (Mod_quantify_b93 N (zI x1) (zI x3) (zI x4) (zI x7) (zo σ)) := by
  unfold zMod_quantify_b93 Mod_quantify_b93
  refine zr_bind (zr_of (zMod_number_r N  _ hσ) (congrArg (Mod_number N) rfl)) (fun r100 s100σ hr100 hs100 => ?_)
  dsimp only
  refine zr_ite (zI_le (zl_0) (zo_fld rfl 12) (by decide) (hs100.1 12)) ?_ ?_
  · exact zr_of (zMod_quantify_b218_r N _ hx1 _ hx3 _ hr100 _ hr100 _ hx7 _ hs100) (congr (congr (congr (congr (congr (congrArg (Mod_quantify_b218 N) rfl) rfl) rfl) rfl) rfl) rfl)
  · exact zr_of (zMod_quantify_b122_r N _ hx1 _ hx3 _ hx4 _ hr100 _ hr100 _ hx7 _ (hσ.1 11) _ (hs100.1 11) _ hs100) (congr (congr (congr (congr (congr (congr (congr (congr (congrArg (Mod_quantify_b122 N) rfl) rfl) rfl) rfl) rfl) rfl) (zo_fld rfl 11)) (zo_fld rfl 11)) rfl)
def zMod_quantify_b87 (N : Nat) (x1 : Int) (x2 : Int) (x3 : Int) (x4 : Int) (x5 : Int) (x6 : Int) (x7 : Int) (σ : z_S) : Option (Int × z_S) := if x2 = 123 then zMod_quantify_b93 N x1 x3 x4 x7 σ else zMod_quantify_b264 N x1 x3 x5 x6 x7 σ
theorem zMod_quantify_b87_r (N : Nat) (x1 : Int) (hx1 : zin x1) (x2 : Int) (hx2 : zin x2) (x3 : Int) (hx3 : zin x3) (x4 : Int) (hx4 : zin x4) (x5 : Int) (hx5 : zin x5) (x6 : Int) (hx6 : zin x6) (x7 : Int) (hx7 : zin x7) (σ : z_S) (hσ : zR σ) : zrel (zMod_quantify_b87 N x1 x2 x3 x4 x5 x6 x7 σ) (Mod_quantify_b87 N (zI x1) (zI x2) (zI x3) (zI x4) (zI x5) (zI x6) (zI x7) (zo σ)) := by
  unfold zMod_quantify_b87 Mod_quantify_b87
  refine zr_ite (zI_eq rfl (zl_123) hx2 (by decide)) ?_ ?_
  · exact zr_of (zMod_quantify_b93_r N _ hx1 _ hx3 _ hx4 _ hx7 _ hσ) (congr (congr (congr (congr (congrArg (Mod_quantify_b93 N) rfl) rfl) rfl) rfl) rfl)
  · exact zr_of (zMod_quantify_b264_r N _ hx1 _ hx3 _ hx5 _ hx6 _ hx7 _ hσ) (congr (congr (congr (congr (congr (congrArg (Mod_quantify_b264 N) rfl) rfl) rfl) rfl) rfl) rfl)
def zMod_quantify_b77 (N : Nat) (x1 : Int) (x2 : Int) (x3 : Int) (x4 : Int) (x5 : Int) (x6 : Int) (x7 : Int) (σ : z_S) : Option (Int × z_S) := if zin ((σ.1 11) + 1) then zMod_quantify_b87 N x1 x2 x3 x4 x5 x6 x7 (zF σ 11 ((σ.1 11) + 1)) else none
theorem zMod_quantify_b77_r (N : Nat) (x1 : Int) (hx1 : zin x1) (x2 : Int) (hx2 : zin x2) (x3 : Int) (hx3 : zin x3) (x4 : Int) (hx4 : zin x4) (x5 : Int) (hx5 : zin x5) (x6 : Int) (hx6 : zin x6) (x7 : Int) (hx7 : zin x7) (σ : z_S) (hσ : zR σ) : zrel (zMod_quantify_b77 N x1 x2 x3 x4 x5 x6 x7 σ) (Mod_quantify_b77 N (zI x1) (zI x2) (zI x3) (zI x4) (zI x5) (zI x6) (zI x7) (zo σ)) := by
  unfold zMod_quantify_b77 Mod_quantify_b77
  refine zr_g (fun g1 => ?_)
  exact zr_of (zMod_quantify_b87_r N _ hx1 _ hx2 _ hx3 _ hx4 _ hx5 _ hx6 _ hx7 _ (zR_F (k := 11) hσ g1)) (congr (congr (congr (congr (congr (congr (congr (congrArg (Mod_quantify_b87 N) rfl) rfl) rfl) rfl) rfl) rfl) rfl) (zo_F (k := 11) rfl (zI_add (zo_fld rfl 11) (zl_1))))
def zMod_quantify_b70 (N : Nat) (x1 : Int) (x2 : Int) (x3 : Int) (x4 : Int) (x5 : Int) (x6 : Int) (s0 : Int) (σ : z_S) : Option (Int × z_S) := if s0 = 0 then zMod_quantify_b87 N x1 x2 x3 x4 x5 x6 s0 σ else zMod_quantify_b77 N x1 x2 x3 x4 x5 x6 s0 σ
theorem zMod_quantify_b70_r (N : Nat) (x1 : Int) (hx1 : zin x1) (x2 : Int) (hx2 : zin x2) (x3 : Int) (hx3 : zin x3) (x4 : Int) (hx4 : zin x4) (x5 : Int) (hx5 : zin x5) (x6 : Int) (hx6 : zin x6) (s0 : Int) (hs0 : zin s0) (σ : z_S) (hσ : zR σ) : zrel (zMod_quantify_b70 N x1 x2 x3 x4 x5 x6 s0 σ) (Mod_quantify_b70 N (zI x1) (zI x2) (zI x3) (zI x4) (zI x5) (zI x6) (zI s0) (zo σ)) := by
  unfold zMod_quantify_b70 Mod_quantify_b70
  refine zr_ite (zI_eq rfl (zl_0) hs0 (by decide)) ?_ ?_
  · exact zr_of (zMod_quantify_b87_r N _ hx1 _ hx2 _ hx3 _ hx4 _ hx5 _ hx6 _ hs0 _ hσ) (congr (congr (congr (congr (congr (congr (congr (congrArg (Mod_quantify_b87 N) rfl) rfl) rfl) rfl) rfl) rfl) rfl) rfl)
  · exact zr_of (zMod_quantify_b77_r N _ hx1 _ hx2 _ hx3 _ hx4 _ hx5 _ hx6 _ hs0 _ hσ) (congr (congr (congr (congr (congr (congr (congr (congrArg (Mod_quantify_b77 N) rfl) rfl) rfl) rfl) rfl) rfl) rfl) rfl)
def zMod_quantify_b65 (N : Nat) (x1 : Int) (x2 : Int) (x3 : Int) (x4 : Int) (x5 : Int) (x6 : Int) (σ : z_S) : Option (Int × z_S) := zMod_quantify_b70 N x1 x2 x3 x4 x5 x6 1 σ
theorem zMod_quantify_b65_r (N : Nat) (x1 : Int) (hx1 : zin x1) (x2 : Int) (hx2 : zin x2) (x3 : Int) (hx3 : zin x3) (x4 : Int) (hx4 : zin x4) (x5 : Int) (hx5 : zin x5) (x6 : Int) (hx6 : zin x6) (σ : z_S) (hσ : zR σ) : zrel (zMod_quantify_b65 N x1 x2 x3 x4 x5 x6 σ) (Mod_quantify_b65 N (zI x1) (zI x2) (zI x3) (zI x4) (zI x5) (zI x6) (zo σ)) := by
  unfold zMod_quantify_b65 Mod_quantify_b65
  exact zr_of (zMod_quantify_b70_r N _ hx1 _ hx2 _ hx3 _ hx4 _ hx5 _ hx6 _ (by decide) _ hσ) (congr (congr (congr (congr (congr (congr (congr (congrArg (Mod_quantify_b70 N) rfl) rfl) rfl) rfl) rfl) rfl) (zl_1)) rfl)
def zMod_quantify_b69 (N : Nat) (x1 : Int) (x2 : Int) (x3 : Int) (x4 : Int) (x5 : Int) (x6 : Int) (σ : z_S) : Option (Int × z_S) := zMod_quantify_b70 N x1 x2 x3 x4 x5 x6 0 σ
theorem zMod_quantify_b69_r (N : Nat) (x1 : Int) (hx1 : zin x1) (x2 : Int) (hx2 : zin x2) (x3 : Int) (hx3 : zin x3) (x4 : Int) (hx4 : zin x4) (x5 : Int) (hx5 : zin x5) (x6 : Int) (hx6 : zin x6) (σ : z_S) (hσ : zR σ) : zrel (zMod_quantify_b69 N x1 x2 x3 x4 x5 x6 σ) (Mod_quantify_b69 N (zI x1) (zI x2) (zI x3) (zI x4) (zI x5) (zI x6) (zo σ)) := by
  unfold zMod_quantify_b69 Mod_quantify_b69
  exact zr_of (zMod_quantify_b70_r N _ hx1 _ hx2 _ hx3 _ hx4 _ hx5 _ hx6 _ (by decide) _ hσ) (congr (congr (congr (congr (congr (congr (congr (congrArg (Mod_quantify_b70 N) rfl) rfl) rfl) rfl) rfl) rfl) (zl_0)) rfl)
def zMod_quantify_b59 (N : Nat) (x1 : Int) (x2 : Int) (x3 : Int) (x4 : Int) (x5 : Int) (x6 : Int) (σ : z_S) : Option (Int × z_S) := if x2 = 123 then zMod_quantify_b65 N x1 x2 x3 x4 x5 x6 σ else zMod_quantify_b69 N x1 x2 x3 x4 x5 x6 σ
theorem zMod_quantify_b59_r (N : Nat) (x1 : Int) (hx1 : zin x1) (x2 : Int) (hx2 : zin x2) (x3 : Int) (hx3 : zin x3) (x4 : Int) (hx4 : zin x4) (x5 : Int) (hx5 : zin x5) (x6 : Int) (hx6 : zin x6) (σ : z_S) (hσ : zR σ) : zrel (zMod_quantify_b59 N x1 x2 x3 x4 x5 x6 σ) (Mod_quantify_b59 N (zI x1) (zI x2) (zI x3) (zI x4) (zI x5) (zI x6) (zo σ)) := by
  unfold zMod_quantify_b59 Mod_quantify_b59
  refine zr_ite (zI_eq rfl (zl_123) hx2 (by decide)) ?_ ?_
  · exact zr_of (zMod_quantify_b65_r N _ hx1 _ hx2 _ hx3 _ hx4 _ hx5 _ hx6 _ hσ) (congr (congr (congr (congr (congr (congr (congrArg (Mod_quantify_b65 N) rfl) rfl) rfl) rfl) rfl) rfl) rfl)
  · exact zr_of (zMod_quantify_b69_r N _ hx1 _ hx2 _ hx3 _ hx4 _ hx5 _ hx6 _ hσ) (congr (congr (congr (congr (congr (congr (congrArg (Mod_quantify_b69 N) rfl) rfl) rfl) rfl) rfl) rfl) rfl)
def zMod_quantify_b53 (N : Nat) (x1 : Int) (x2 : Int) (x3 : Int) (x4 : Int) (x5 : Int) (x6 : Int) (σ : z_S) : Option (Int × z_S) := if x2 = 63 then zMod_quantify_b65 N x1 x2 x3 x4 x5 x6 σ else zMod_quantify_b59 N x1 x2 x3 x4 x5 x6 σ
theorem zMod_quantify_b53_r (N : Nat) (x1 : Int) (hx1 : zin x1) (x2 : Int) (hx2 : zin x2) (x3 : Int) (hx3 : zin x3) (x4 : Int) (hx4 : zin x4) (x5 : Int) (hx5 : zin x5) (x6 : Int) (hx6 : zin x6) (σ : z_S) (hσ : zR σ) : zrel (zMod_quantify_b53 N x1 x2 x3 x4 x5 x6 σ) (Mod_quantify_b53 N (zI x1) (zI x2) (zI x3) (zI x4) (zI x5) (zI x6) (zo σ)) := by
  unfold zMod_quantify_b53 Mod_quantify_b53
  refine zr_ite (zI_eq rfl (zl_63) hx2 (by decide)) ?_ ?_
  · exact zr_of (zMod_quantify_b65_r N _ hx1 _ hx2 _ hx3 _ hx4 _ hx5 _ hx6 _ hσ) (congr (congr (congr (congr (congr (congr (congrArg (Mod_quantify_b65 N) rfl) rfl) rfl) rfl) rfl) rfl) rfl)
  · exact zr_of (zMod_quantify_b59_r N _ hx1 _ hx2 _ hx3 _ hx4 _ hx5 _ hx6 _ hσ) (congr (congr (congr (congr (congr (congr (congrArg (Mod_quantify_b59 N) rfl) rfl) rfl) rfl) rfl) rfl) rfl)
def zMod_quantify_b47 (N : Nat) (x1 : Int) (x2 : Int) (x3 : Int) (x4 : Int) (x5 : Int) (x6 : Int) (σ : z_S) : Option (Int × z_S) := if x2 = 43 then zMod_quantify_b65 N x1 x2 x3 x4 x5 x6 σ else zMod_quantify_b53 N x1 x2 x3 x4 x5 x6 σ
theorem zMod_quantify_b47_r (N : Nat) (x1 : Int) (hx1 : zin x1) (x2 : Int) (hx2 : zin x2) (x3 : Int) (hx3 : zin x3) (x4 : Int) (hx4 : zin x4) (x5 : Int) (hx5 : zin x5) (x6 : Int) (hx6 : zin x6) (σ : z_S) (hσ : zR σ) : zrel (zMod_quantify_b47 N x1 x2 x3 x4 x5 x6 σ) (Mod_quantify_b47 N (zI x1) (zI x2) (zI x3) (zI x4) (zI x5) (zI x6) (zo σ)) := by
  unfold zMod_quantify_b47 Mod_quantify_b47
  refine zr_ite (zI_eq rfl (zl_43) hx2 (by decide)) ?_ ?_
  · exact zr_of (zMod_quantify_b65_r N _ hx1 _ hx2 _ hx3 _ hx4 _ hx5 _ hx6 _ hσ) (congr (congr (congr (congr (congr (congr (congrArg (Mod_quantify_b65 N) rfl) rfl) rfl) rfl) rfl) rfl) rfl)
  · exact zr_of (zMod_quantify_b53_r N _ hx1 _ hx2 _ hx3 _ hx4 _ hx5 _ hx6 _ hσ) (congr (congr (congr (congr (congr (congr (congrArg (Mod_quantify_b53 N) rfl) rfl) rfl) rfl) rfl) rfl) rfl)
def zMod_quantify_b39 (N : Nat) (x1 : Int) (x2 : Int) (x3 : Int) (x4 : Int) (x5 : Int) (s0 : Int) (σ : z_S) : Option (Int × z_S) := if x2 = 42 then zMod_quantify_b65 N x1 x2 x3 x4 x5 s0 σ else zMod_quantify_b47 N x1 x2 x3 x4 x5 s0 σ
theorem zMod_quantify_b39_r (N : Nat) (x1 : Int) (hx1 : zin x1) (x2 : Int) (hx2 : zin x2) (x3 : Int) (hx3 : zin x3) (x4 : Int) (hx4 : zin x4) (x5 : Int) (hx5 : zin x5) (s0 : Int) (hs0 : zin s0) (σ : z_S) (hσ : zR σ) : zrel (zMod_quantify_b39 N x1 x2 x3 x4 x5 s0 σ) (Mod_quantify_b39 N (zI x1) (zI x2) (zI x3) (zI x4) (zI x5) (zI s0) (zo σ)) := by
  unfold zMod_quantify_b39 Mod_quantify_b39
  refine zr_ite (zI_eq rfl (zl_42) hx2 (by decide)) ?_ ?_
  · exact zr_of (zMod_quantify_b65_r N _ hx1 _ hx2 _ hx3 _ hx4 _ hx5 _ hs0 _ hσ) (congr (congr (congr (congr (congr (congr (congrArg (Mod_quantify_b65 N) rfl) rfl) rfl) rfl) rfl) rfl) rfl)
  · exact zr_of (zMod_quantify_b47_r N _ hx1 _ hx2 _ hx3 _ hx4 _ hx5 _ hs0 _ hσ) (congr (congr (congr (congr (congr (congr (congrArg (Mod_quantify_b47 N) rfl) rfl) rfl) rfl) rfl) rfl) rfl)
def zMod_quantify_b37 (N : Nat) (x1 : Int) (x2 : Int) (x3 : Int) (x4 : Int) (x5 : Int) (σ : z_S) : Option (Int × z_S) := zMod_quantify_b39 N x1 x2 x3 x4 x5 1000000 σ
theorem zMod_quantify_b37_r (N : Nat) (x1 : Int) (hx1 : zin x1) (x2 : Int) (hx2 : zin x2) (x3 : Int) (hx3 : zin x3) (x4 : Int) (hx4 : zin x4) (x5 : Int) (hx5 : zin x5) (σ : z_S) (hσ : zR σ) : zrel (zMod_quantify_b37 N x1 x2 x3 x4 x5 σ) (Mod_quantify_b37 N (zI x1) (zI x2) (zI x3) (zI x4) (zI x5) (zo σ)) := by
  unfold zMod_quantify_b37 Mod_quantify_b37
  exact zr_of (zMod_quantify_b39_r N _ hx1 _ hx2 _ hx3 _ hx4 _ hx5 _ (by decide) _ hσ) (congr (congr (congr (congr (congr (congr (congrArg (Mod_quantify_b39 N) rfl) rfl) rfl) rfl) rfl) (zl_1000000)) rfl)
def zMod_quantify_b33 (N : Nat) (x1 : Int) (x2 : Int) (x3 : Int) (x4 : Int) (x5 : Int) (σ : z_S) : Option (Int × z_S) := zMod_quantify_b39 N x1 x2 x3 x4 x5 1 σ
theorem zMod_quantify_b33_r (N : Nat) (x1 : Int) (hx1 : zin x1) (x2 : Int) (hx2 : zin x2) (x3 : Int) (hx3 : zin x3) (x4 : Int) (hx4 : zin x4) (x5 : Int) (hx5 : zin x5) (σ : z_S) (hσ : zR σ) : zrel (zMod_quantify_b33 N x1 x2 x3 x4 x5 σ) (Mod_quantify_b33 N (zI x1) (zI x2) (zI x3) (zI x4) (zI x5) (zo σ)) := by
  unfold zMod_quantify_b33 Mod_quantify_b33
  exact zr_of (zMod_quantify_b39_r N _ hx1 _ hx2 _ hx3 _ hx4 _ hx5 _ (by decide) _ hσ) (congr (congr (congr (congr (congr (congr (congrArg (Mod_quantify_b39 N) rfl) rfl) rfl) rfl) rfl) (zl_1)) rfl)
def zMod_quantify_b25 (N : Nat) (x1 : Int) (x2 : Int) (x3 : Int) (x4 : Int) (s0 : Int) (σ : z_S) : Option (Int × z_S) := if x2 = 63 then zMod_quantify_b33 N x1 x2 x3 x4 s0 σ else zMod_quantify_b37 N x1 x2 x3 x4 s0 σ
theorem zMod_quantify_b25_r (N : Nat) (x1 : Int) (hx1 : zin x1) (x2 : Int) (hx2 : zin x2) (x3 : Int) (hx3 : zin x3) (x4 : Int) (hx4 : zin x4) (s0 : Int) (hs0 : zin s0) (σ : z_S) (hσ : zR σ) : zrel (zMod_quantify_b25 N x1 x2 x3 x4 s0 σ) (Mod_quantify_b25 N (zI x1) (zI x2) (zI x3) (zI x4) (zI s0) (zo σ)) := by
  unfold zMod_quantify_b25 Mod_quantify_b25
  refine zr_ite (zI_eq rfl (zl_63) hx2 (by decide)) ?_ ?_
  · exact zr_of (zMod_quantify_b33_r N _ hx1 _ hx2 _ hx3 _ hx4 _ hs0 _ hσ) (congr (congr (congr (congr (congr (congrArg (Mod_quantify_b33 N) rfl) rfl) rfl) rfl) rfl) rfl)
  · exact zr_of (zMod_quantify_b37_r N _ hx1 _ hx2 _ hx3 _ hx4 _ hs0 _ hσ) (congr (congr (congr (congr (congr (congrArg (Mod_quantify_b37 N) rfl) rfl) rfl) rfl) rfl) rfl)
def zMod_quantify_b24 (N : Nat) (x1 : Int) (x2 : Int) (x3 : Int) (x4 : Int) (σ : z_S) : Option (Int × z_S) := zMod_quantify_b25 N x1 x2 x3 x4 0 σ
theorem zMod_quantify_b24_r (N : Nat) (x1 : Int) (hx1 : zin x1) (x2 : Int) (hx2 : zin x2) (x3 : Int) (hx3 : zin x3) (x4 : Int) (hx4 : zin x4) (σ : z_S) (hσ : zR σ) : zrel (zMod_quantify_b24 N x1 x2 x3 x4 σ) (Mod_quantify_b24 N (zI x1) (zI x2) (zI x3) (zI x4) (zo σ)) := by
  unfold zMod_quantify_b24 Mod_quantify_b24
  exact zr_of (zMod_quantify_b25_r N _ hx1 _ hx2 _ hx3 _ hx4 _ (by decide) _ hσ) (congr (congr (congr (congr (congr (congrArg (Mod_quantify_b25 N) rfl) rfl) rfl) rfl) (zl_0)) rfl)
def zMod_quantify_b20 (N : Nat) (x1 : Int) (x2 : Int) (x3 : Int) (x4 : Int) (σ : z_S) : Option (Int × z_S) := zMod_quantify_b25 N x1 x2 x3 x4 1 σ
theorem zMod_quantify_b20_r (N : Nat) (x1 : Int) (hx1 : zin x1) (x2 : Int) (hx2 : zin x2) (x3 : Int) (hx3 : zin x3) (x4 : Int) (hx4 : zin x4) (σ : z_S) (hσ : zR σ) : zrel (zMod_quantify_b20 N x1 x2 x3 x4 σ) (Mod_quantify_b20 N (zI x1) (zI x2) (zI x3) (zI x4) (zo σ)) := by
  unfold zMod_quantify_b20 Mod_quantify_b20
  exact zr_of (zMod_quantify_b25_r N _ hx1 _ hx2 _ hx3 _ hx4 _ (by decide) _ hσ) (congr (congr (congr (congr (congr (congrArg (Mod_quantify_b25 N) rfl) rfl) rfl) rfl) (zl_1)) rfl)
def zMod_quantify_b0 (N : Nat) (x1 : Int) (σ : z_S) : Option (Int × z_S) := (zMod_see N 0 σ).bind fun q2 => if q2.1 = 43 then zMod_quantify_b20 N x1 q2.1 x1 (q2.2.1 11) q2.2 else zMod_quantify_b24 N x1 q2.1 x1 (q2.2.1 11) q2.2
theorem zMod_quantify_b0_r (N : Nat) (x1 : Int) (hx1 : zin x1) (σ : z_S) (hσ : zR σ) : zrel (zMod_quantify_b0 N x1 σ) (Mod_quantify_b0 N (zI x1) (zo σ)) := by
  unfold zMod_quantify_b0 Mod_quantify_b0
  refine zr_bind (zr_of (zMod_see_r N _ (by decide) _ hσ) (congr (congrArg (Mod_see N) (zl_0)) rfl)) (fun r2 s2σ hr2 hs2 => ?_)
  dsimp only
  refine zr_ite (zI_eq rfl (zl_43) hr2 (by decide)) ?_ ?_
  · exact zr_of (zMod_quantify_b20_r N _ hx1 _ hr2 _ hx1 _ (hs2.1 11) _ hs2) (congr (congr (congr (congr (congrArg (Mod_quantify_b20 N) rfl) rfl) rfl) (zo_fld rfl 11)) rfl)
  · exact zr_of (zMod_quantify_b24_r N _ hx1 _ hr2 _ hx1 _ (hs2.1 11) _ hs2) (congr (congr (congr (congr (congrArg (Mod_quantify_b24 N) rfl) rfl) rfl) (zo_fld rfl 11)) rfl)
def zMod_quantify (N : Nat) (x1 : Int) (σ : z_S) : Option (Int × z_S) := zMod_quantify_b0 N x1 σ
theorem zMod_quantify_r (N : Nat) (x1 : Int) (hx1 : zin x1) (σ : z_S) (hσ : zR σ) : zrel (zMod_quantify N x1 σ) (Mod_quantify N (zI x1) (zo σ)) := by
  unfold zMod_quantify Mod_quantify
  exact zr_of (zMod_quantify_b0_r N _ hx1 _ hσ) (congr (congrArg (Mod_quantify_b0 N) rfl) rfl)
def zMod_openGroup_b183 (N : Nat) (x2 : Int) (s1 : Int) (s2 : Int) (σ : z_S) : Option (Int × z_S) := if zin (s1 + s2) then if zin ((σ.1 14) + 1) then (zMod_opens N x2 (zF (zF σ 11 (s1 + s2)) 14 ((σ.1 14) + 1))).bind fun q199 => some (0, q199.2) else none else none
theorem zMod_openGroup_b183_r (N : Nat) (x2 : Int) (hx2 : zin x2) (s1 : Int) (hs1 : zin s1) (s2 : Int) (hs2 : zin s2) (σ : z_S) (hσ : zR σ) : zrel (zMod_openGroup_b183 N x2 s1 s2 σ) (Mod_openGroup_b183 N (zI x2) (zI s1) (zI s2) (zo σ)) := by
  unfold zMod_openGroup_b183 Mod_openGroup_b183
  refine zr_g (fun g1 => ?_)
  refine zr_g (fun g2 => ?_)
  refine zr_bind (zr_of (zMod_opens_r N _ hx2 _ (zR_F (k := 14) (zR_F (k := 11) hσ g1) g2)) (congr (congrArg (Mod_opens N) rfl) (zo_F (k := 14) (zo_F (k := 11) rfl (zI_add rfl rfl)) (zI_add (zo_fld rfl 14) (zl_1))))) (fun r199 s199σ hr199 hs199 => ?_)
  dsimp only
  exact zr_some (zl_0) (by decide) rfl hs199
def zMod_openGroup_b182 (N : Nat) (x2 : Int) (s1 : Int) (σ : z_S) : Option (Int × z_S) := zMod_openGroup_b183 N x2 s1 3 σ
theorem zMod_openGroup_b182_r (N : Nat) (x2 : Int) (hx2 : zin x2) (s1 : Int) (hs1 : zin s1) (σ : z_S) (hσ : zR σ) : zrel (zMod_openGroup_b182 N x2 s1 σ) (Mod_openGroup_b182 N (zI x2) (zI s1) (zo σ)) := by
  unfold zMod_openGroup_b182 Mod_openGroup_b182
  exact zr_of (zMod_openGroup_b183_r N _ hx2 _ hs1 _ (by decide) _ hσ) (congr (congr (congr (congrArg (Mod_openGroup_b183 N) rfl) rfl) (zl_3)) rfl)
def zMod_openGroup_b178 (N : Nat) (x2 : Int) (s1 : Int) (σ : z_S) : Option (Int × z_S) := zMod_openGroup_b183 N x2 s1 1 σ
theorem zMod_openGroup_b178_r (N : Nat) (x2 : Int) (hx2 : zin x2) (s1 : Int) (hs1 : zin s1) (σ : z_S) (hσ : zR σ) : zrel (zMod_openGroup_b178 N x2 s1 σ) (Mod_openGroup_b178 N (zI x2) (zI s1) (zo σ)) := by
  unfold zMod_openGroup_b178 Mod_openGroup_b178
  exact zr_of (zMod_openGroup_b183_r N _ hx2 _ hs1 _ (by decide) _ hσ) (congr (congr (congr (congrArg (Mod_openGroup_b183 N) rfl) rfl) (zl_1)) rfl)
def zMod_openGroup_b167 (N : Nat) (x1 : Int) (x2 : Int) (σ : z_S) : Option (Int × z_S) := if x1 = 12 then zMod_openGroup_b178 N x2 (σ.1 11) σ else zMod_openGroup_b182 N x2 (σ.1 11) σ
theorem zMod_openGroup_b167_r (N : Nat) (x1 : Int) (hx1 : zin x1) (x2 : Int) (hx2 : zin x2) (σ : z_S) (hσ : zR σ) : zrel (zMod_openGroup_b167 N x1 x2 σ) (Mod_openGroup_b167 N (zI x1) (zI x2) (zo σ)) := by
  unfold zMod_openGroup_b167 Mod_openGroup_b167
  refine zr_ite (zI_eq rfl (zl_12) hx1 (by decide)) ?_ ?_
  · exact zr_of (zMod_openGroup_b178_r N _ hx2 _ (hσ.1 11) _ hσ) (congr (congr (congrArg (Mod_openGroup_b178 N) rfl) (zo_fld rfl 11)) rfl)
  · exact zr_of (zMod_openGroup_b182_r N _ hx2 _ (hσ.1 11) _ hσ) (congr (congr (congrArg (Mod_openGroup_b182 N) rfl) (zo_fld rfl 11)) rfl)
def zMod_openGroup_b157 (N : Nat) (x1 : Int) (x2 : Int) (σ : z_S) : Option (Int × z_S) := if zin ((σ.1 9) + 1) then zMod_openGroup_b167 N x1 x2 (zF σ 9 ((σ.1 9) + 1)) else none
theorem zMod_openGroup_b157_r (N : Nat) (x1 : Int) (hx1 : zin x1) (x2 : Int) (hx2 : zin x2) (σ : z_S) (hσ : zR σ) : zrel (zMod_openGroup_b157 N x1 x2 σ) (Mod_openGroup_b157 N (zI x1) (zI x2) (zo σ)) := by
  unfold zMod_openGroup_b157 Mod_openGroup_b157
  refine zr_g (fun g1 => ?_)
  exact zr_of (zMod_openGroup_b167_r N _ hx1 _ hx2 _ (zR_F (k := 9) hσ g1)) (congr (congr (congrArg (Mod_openGroup_b167 N) rfl) rfl) (zo_F (k := 9) rfl (zI_add (zo_fld rfl 9) (zl_1))))
def zMod_openGroup_b137 (N : Nat) (x1 : Int) (σ : z_S) : Option (Int × z_S) := if zin ((σ.1 9) + 1) then (zMod_node N x1 ((σ.1 9) + 1) 0 0 σ).bind fun q147 => if x1 = 12 then zMod_openGroup_b157 N x1 q147.1 q147.2 else zMod_openGroup_b167 N x1 q147.1 q147.2 else none
theorem zMod_openGroup_b137_r (N : Nat) (x1 : Int) (hx1 : zin x1) (σ : z_S) (hσ : zR σ) : zrel (zMod_openGroup_b137 N x1 σ) (Mod_openGroup_b137 N (zI x1) (zo σ)) := by
  unfold zMod_openGroup_b137 Mod_openGroup_b137
  refine zr_g (fun g1 => ?_)
  refine zr_bind (zr_of (zMod_node_r N _ hx1 _ g1 _ (by decide) _ (by decide) _ hσ) (congr (congr (congr (congr (congrArg (Mod_node N) rfl) (zI_add (zo_fld rfl 9) (zl_1))) (zl_0)) (zl_0)) rfl)) (fun r147 s147σ hr147 hs147 => ?_)
  dsimp only
  refine zr_ite (zI_eq rfl (zl_12) hx1 (by decide)) ?_ ?_
  · exact zr_of (zMod_openGroup_b157_r N _ hx1 _ hr147 _ hs147) (congr (congr (congrArg (Mod_openGroup_b157 N) rfl) rfl) rfl)
  · exact zr_of (zMod_openGroup_b167_r N _ hx1 _ hr147 _ hs147) (congr (congr (congrArg (Mod_openGroup_b167 N) rfl) rfl) rfl)
def zMod_openGroup_b136 (N : Nat) (σ : z_S) : Option (Int × z_S) := some (0, σ)
theorem zMod_openGroup_b136_r (N : Nat) (σ : z_S) (hσ : zR σ) : zrel (zMod_openGroup_b136 N σ) (Mod_openGroup_b136 N (zo σ)) := by
  unfold zMod_openGroup_b136 Mod_openGroup_b136
  exact zr_some (zl_0) (by decide) rfl hσ
def zMod_openGroup_b129 (N : Nat) (x1 : Int) (σ : z_S) : Option (Int × z_S) := if (σ.1 12) < 0 then zMod_openGroup_b137 N x1 σ else zMod_openGroup_b136 N σ
theorem zMod_openGroup_b129_r (N : Nat) (x1 : Int) (hx1 : zin x1) (σ : z_S) (hσ : zR σ) : zrel (zMod_openGroup_b129 N x1 σ) (Mod_openGroup_b129 N (zI x1) (zo σ)) := by
  unfold zMod_openGroup_b129 Mod_openGroup_b129
  refine zr_ite (zI_lt (zo_fld rfl 12) (zl_0) (hσ.1 12) (by decide)) ?_ ?_
  · exact zr_of (zMod_openGroup_b137_r N _ hx1 _ hσ) (congr (congrArg (Mod_openGroup_b137 N) rfl) rfl)
  · exact zr_of (zMod_openGroup_b136_r N  _ hσ) (congrArg (Mod_openGroup_b136 N) rfl)
def zMod_openGroup_b121 (N : Nat) (x1 : Int) (σ : z_S) : Option (Int × z_S) := (zMod_fail N (σ.1 11) σ).bind fun q126 => zMod_openGroup_b129 N x1 q126.2
theorem zMod_openGroup_b121_r (N : Nat) (x1 : Int) (hx1 : zin x1) (σ : z_S) (hσ : zR σ) : zrel (zMod_openGroup_b121 N x1 σ) (Mod_openGroup_b121 N (zI x1) (zo σ)) := by
  unfold zMod_openGroup_b121 Mod_openGroup_b121
  refine zr_bind (zr_of (zMod_fail_r N _ (hσ.1 11) _ hσ) (congr (congrArg (Mod_fail N) (zo_fld rfl 11)) rfl)) (fun r126 s126σ hr126 hs126 => ?_)
  dsimp only
  exact zr_of (zMod_openGroup_b129_r N _ hx1 _ hs126) (congr (congrArg (Mod_openGroup_b129 N) rfl) rfl)
def zMod_openGroup_b112 (N : Nat) (x1 : Int) (σ : z_S) : Option (Int × z_S) := if (σ.1 9) = 20 then zMod_openGroup_b121 N x1 σ else zMod_openGroup_b129 N x1 σ
theorem zMod_openGroup_b112_r (N : Nat) (x1 : Int) (hx1 : zin x1) (σ : z_S) (hσ : zR σ) : zrel (zMod_openGroup_b112 N x1 σ) (Mod_openGroup_b112 N (zI x1) (zo σ)) := by
  unfold zMod_openGroup_b112 Mod_openGroup_b112
  refine zr_ite (zI_eq (zo_fld rfl 9) (zl_20) (hσ.1 9) (by decide)) ?_ ?_
  · exact zr_of (zMod_openGroup_b121_r N _ hx1 _ hσ) (congr (congrArg (Mod_openGroup_b121 N) rfl) rfl)
  · exact zr_of (zMod_openGroup_b129_r N _ hx1 _ hσ) (congr (congrArg (Mod_openGroup_b129 N) rfl) rfl)
def zMod_openGroup_b109 (N : Nat) (x1 : Int) (σ : z_S) : Option (Int × z_S) := zMod_openGroup_b129 N x1 σ
theorem zMod_openGroup_b109_r (N : Nat) (x1 : Int) (hx1 : zin x1) (σ : z_S) (hσ : zR σ) : zrel (zMod_openGroup_b109 N x1 σ) (Mod_openGroup_b109 N (zI x1) (zo σ)) := by
  unfold zMod_openGroup_b109 Mod_openGroup_b109
  exact zr_of (zMod_openGroup_b129_r N _ hx1 _ hσ) (congr (congrArg (Mod_openGroup_b129 N) rfl) rfl)
def zMod_openGroup_b106 (N : Nat) (x1 : Int) (s1 : Int) (σ : z_S) : Option (Int × z_S) := (zMod_fail N s1 σ).bind fun q106 => zMod_openGroup_b109 N x1 q106.2
theorem zMod_openGroup_b106_r (N : Nat) (x1 : Int) (hx1 : zin x1) (s1 : Int) (hs1 : zin s1) (σ : z_S) (hσ : zR σ) : zrel (zMod_openGroup_b106 N x1 s1 σ) (Mod_openGroup_b106 N (zI x1) (zI s1) (zo σ)) := by
  unfold zMod_openGroup_b106 Mod_openGroup_b106
  refine zr_bind (zr_of (zMod_fail_r N _ hs1 _ hσ) (congr (congrArg (Mod_fail N) rfl) rfl)) (fun r106 s106σ hr106 hs106 => ?_)
  dsimp only
  exact zr_of (zMod_openGroup_b109_r N _ hx1 _ hs106) (congr (congrArg (Mod_openGroup_b109 N) rfl) rfl)
def zMod_openGroup_b102 (N : Nat) (x1 : Int) (σ : z_S) : Option (Int × z_S) := zMod_openGroup_b106 N x1 (σ.1 2) σ
theorem zMod_openGroup_b102_r (N : Nat) (x1 : Int) (hx1 : zin x1) (σ : z_S) (hσ : zR σ) : zrel (zMod_openGroup_b102 N x1 σ) (Mod_openGroup_b102 N (zI x1) (zo σ)) := by
  unfold zMod_openGroup_b102 Mod_openGroup_b102
  exact zr_of (zMod_openGroup_b106_r N _ hx1 _ (hσ.1 2) _ hσ) (congr (congr (congrArg (Mod_openGroup_b106 N) rfl) (zo_fld rfl 2)) rfl)
def zMod_openGroup_b93 (N : Nat) (x1 : Int) (σ : z_S) : Option (Int × z_S) := if zin ((σ.1 11) + 2) then zMod_openGroup_b106 N x1 ((σ.1 11) + 2) σ else none
theorem zMod_openGroup_b93_r (N : Nat) (x1 : Int) (hx1 : zin x1) (σ : z_S) (hσ : zR σ) : zrel (zMod_openGroup_b93 N x1 σ) (Mod_openGroup_b93 N (zI x1) (zo σ)) := by
  unfold zMod_openGroup_b93 Mod_openGroup_b93
  refine zr_g (fun g1 => ?_)
  exact zr_of (zMod_openGroup_b106_r N _ hx1 _ g1 _ hσ) (congr (congr (congrArg (Mod_openGroup_b106 N) rfl) (zI_add (zo_fld rfl 11) (zl_2))) rfl)
def zMod_openGroup_b79 (N : Nat) (x1 : Int) (σ : z_S) : Option (Int × z_S) := if zin ((σ.1 11) + 2) then if (σ.1 2) ≤ ((σ.1 11) + 2) then zMod_openGroup_b102 N x1 σ else zMod_openGroup_b93 N x1 σ else none
theorem zMod_openGroup_b79_r (N : Nat) (x1 : Int) (hx1 : zin x1) (σ : z_S) (hσ : zR σ) : zrel (zMod_openGroup_b79 N x1 σ) (Mod_openGroup_b79 N (zI x1) (zo σ)) := by
  unfold zMod_openGroup_b79 Mod_openGroup_b79
  refine zr_g (fun g1 => ?_)
  refine zr_ite (zI_le (zo_fld rfl 2) (zI_add (zo_fld rfl 11) (zl_2)) (hσ.1 2) g1) ?_ ?_
  · exact zr_of (zMod_openGroup_b102_r N _ hx1 _ hσ) (congr (congrArg (Mod_openGroup_b102 N) rfl) rfl)
  · exact zr_of (zMod_openGroup_b93_r N _ hx1 _ hσ) (congr (congrArg (Mod_openGroup_b93 N) rfl) rfl)
def zMod_openGroup_b73 (N : Nat) (x1 : Int) (x2 : Int) (σ : z_S) : Option (Int × z_S) := if x2 = 33 then zMod_openGroup_b109 N x1 σ else zMod_openGroup_b79 N x1 σ
theorem zMod_openGroup_b73_r (N : Nat) (x1 : Int) (hx1 : zin x1) (x2 : Int) (hx2 : zin x2) (σ : z_S) (hσ : zR σ) : zrel (zMod_openGroup_b73 N x1 x2 σ) (Mod_openGroup_b73 N (zI x1) (zI x2) (zo σ)) := by
  unfold zMod_openGroup_b73 Mod_openGroup_b73
  refine zr_ite (zI_eq rfl (zl_33) hx2 (by decide)) ?_ ?_
  · exact zr_of (zMod_openGroup_b109_r N _ hx1 _ hσ) (congr (congrArg (Mod_openGroup_b109 N) rfl) rfl)
  · exact zr_of (zMod_openGroup_b79_r N _ hx1 _ hσ) (congr (congrArg (Mod_openGroup_b79 N) rfl) rfl)
def zMod_openGroup_b67 (N : Nat) (x1 : Int) (x2 : Int) (σ : z_S) : Option (Int × z_S) := if x2 = 61 then zMod_openGroup_b109 N x1 σ else zMod_openGroup_b73 N x1 x2 σ
theorem zMod_openGroup_b67_r (N : Nat) (x1 : Int) (hx1 : zin x1) (x2 : Int) (hx2 : zin x2) (σ : z_S) (hσ : zR σ) : zrel (zMod_openGroup_b67 N x1 x2 σ) (Mod_openGroup_b67 N (zI x1) (zI x2) (zo σ)) := by
  unfold zMod_openGroup_b67 Mod_openGroup_b67
  refine zr_ite (zI_eq rfl (zl_61) hx2 (by decide)) ?_ ?_
  · exact zr_of (zMod_openGroup_b109_r N _ hx1 _ hσ) (congr (congrArg (Mod_openGroup_b109 N) rfl) rfl)
  · exact zr_of (zMod_openGroup_b73_r N _ hx1 _ hx2 _ hσ) (congr (congr (congrArg (Mod_openGroup_b73 N) rfl) rfl) rfl)
def zMod_openGroup_b60 (N : Nat) (x2 : Int) (s0 : Int) (σ : z_S) : Option (Int × z_S) := if x2 = 58 then zMod_openGroup_b109 N s0 σ else zMod_openGroup_b67 N s0 x2 σ
theorem zMod_openGroup_b60_r (N : Nat) (x2 : Int) (hx2 : zin x2) (s0 : Int) (hs0 : zin s0) (σ : z_S) (hσ : zR σ) : zrel (zMod_openGroup_b60 N x2 s0 σ) (Mod_openGroup_b60 N (zI x2) (zI s0) (zo σ)) := by
  unfold zMod_openGroup_b60 Mod_openGroup_b60
  refine zr_ite (zI_eq rfl (zl_58) hx2 (by decide)) ?_ ?_
  · exact zr_of (zMod_openGroup_b109_r N _ hs0 _ hσ) (congr (congrArg (Mod_openGroup_b109 N) rfl) rfl)
  · exact zr_of (zMod_openGroup_b67_r N _ hs0 _ hx2 _ hσ) (congr (congr (congrArg (Mod_openGroup_b67 N) rfl) rfl) rfl)
def zMod_openGroup_b58 (N : Nat) (x2 : Int) (σ : z_S) : Option (Int × z_S) := zMod_openGroup_b60 N x2 15 σ
theorem zMod_openGroup_b58_r (N : Nat) (x2 : Int) (hx2 : zin x2) (σ : z_S) (hσ : zR σ) : zrel (zMod_openGroup_b58 N x2 σ) (Mod_openGroup_b58 N (zI x2) (zo σ)) := by
  unfold zMod_openGroup_b58 Mod_openGroup_b58
  exact zr_of (zMod_openGroup_b60_r N _ hx2 _ (by decide) _ hσ) (congr (congr (congrArg (Mod_openGroup_b60 N) rfl) (zl_15)) rfl)
def zMod_openGroup_b53 (N : Nat) (x2 : Int) (σ : z_S) : Option (Int × z_S) := zMod_openGroup_b60 N x2 14 σ
theorem zMod_openGroup_b53_r (N : Nat) (x2 : Int) (hx2 : zin x2) (σ : z_S) (hσ : zR σ) : zrel (zMod_openGroup_b53 N x2 σ) (Mod_openGroup_b53 N (zI x2) (zo σ)) := by
  unfold zMod_openGroup_b53 Mod_openGroup_b53
  exact zr_of (zMod_openGroup_b60_r N _ hx2 _ (by decide) _ hσ) (congr (congr (congrArg (Mod_openGroup_b60 N) rfl) (zl_14)) rfl)
def zMod_openGroup_b47 (N : Nat) (x2 : Int) (σ : z_S) : Option (Int × z_S) := if x2 = 61 then zMod_openGroup_b53 N x2 σ else zMod_openGroup_b58 N x2 σ
theorem zMod_openGroup_b47_r (N : Nat) (x2 : Int) (hx2 : zin x2) (σ : z_S) (hσ : zR σ) : zrel (zMod_openGroup_b47 N x2 σ) (Mod_openGroup_b47 N (zI x2) (zo σ)) := by
  unfold zMod_openGroup_b47 Mod_openGroup_b47
  refine zr_ite (zI_eq rfl (zl_61) hx2 (by decide)) ?_ ?_
  · exact zr_of (zMod_openGroup_b53_r N _ hx2 _ hσ) (congr (congrArg (Mod_openGroup_b53 N) rfl) rfl)
  · exact zr_of (zMod_openGroup_b58_r N _ hx2 _ hσ) (congr (congrArg (Mod_openGroup_b58 N) rfl) rfl)
def zMod_openGroup_b42 (N : Nat) (x2 : Int) (σ : z_S) : Option (Int × z_S) := zMod_openGroup_b60 N x2 13 σ
theorem zMod_openGroup_b42_r (N : Nat) (x2 : Int) (hx2 : zin x2) (σ : z_S) (hσ : zR σ) : zrel (zMod_openGroup_b42 N x2 σ) (Mod_openGroup_b42 N (zI x2) (zo σ)) := by
  unfold zMod_openGroup_b42 Mod_openGroup_b42
  exact zr_of (zMod_openGroup_b60_r N _ hx2 _ (by decide) _ hσ) (congr (congr (congrArg (Mod_openGroup_b60 N) rfl) (zl_13)) rfl)
def zMod_openGroup_b30 (N : Nat) (σ : z_S) : Option (Int × z_S) := (zMod_see N 2 σ).bind fun q32 => if q32.1 = 58 then zMod_openGroup_b42 N q32.1 q32.2 else zMod_openGroup_b47 N q32.1 q32.2
theorem zMod_openGroup_b30_r (N : Nat) (σ : z_S) (hσ : zR σ) : zrel (zMod_openGroup_b30 N σ) (Mod_openGroup_b30 N (zo σ)) := by
  unfold zMod_openGroup_b30 Mod_openGroup_b30
  refine zr_bind (zr_of (zMod_see_r N _ (by decide) _ hσ) (congr (congrArg (Mod_see N) (zl_2)) rfl)) (fun r32 s32σ hr32 hs32 => ?_)
  dsimp only
  refine zr_ite (zI_eq rfl (zl_58) hr32 (by decide)) ?_ ?_
  · exact zr_of (zMod_openGroup_b42_r N _ hr32 _ hs32) (congr (congrArg (Mod_openGroup_b42 N) rfl) rfl)
  · exact zr_of (zMod_openGroup_b47_r N _ hr32 _ hs32) (congr (congrArg (Mod_openGroup_b47 N) rfl) rfl)
def zMod_openGroup_b20 (N : Nat) (x1 : Int) (σ : z_S) : Option (Int × z_S) := (zMod_see N 1 σ).bind fun q22 => if q22.1 = 63 then zMod_openGroup_b30 N q22.2 else zMod_openGroup_b112 N x1 q22.2
theorem zMod_openGroup_b20_r (N : Nat) (x1 : Int) (hx1 : zin x1) (σ : z_S) (hσ : zR σ) : zrel (zMod_openGroup_b20 N x1 σ) (Mod_openGroup_b20 N (zI x1) (zo σ)) := by
  unfold zMod_openGroup_b20 Mod_openGroup_b20
  refine zr_bind (zr_of (zMod_see_r N _ (by decide) _ hσ) (congr (congrArg (Mod_see N) (zl_1)) rfl)) (fun r22 s22σ hr22 hs22 => ?_)
  dsimp only
  refine zr_ite (zI_eq rfl (zl_63) hr22 (by decide)) ?_ ?_
  · exact zr_of (zMod_openGroup_b30_r N  _ hs22) (congrArg (Mod_openGroup_b30 N) rfl)
  · exact zr_of (zMod_openGroup_b112_r N _ hx1 _ hs22) (congr (congrArg (Mod_openGroup_b112 N) rfl) rfl)
def zMod_openGroup_b12 (N : Nat) (x1 : Int) (σ : z_S) : Option (Int × z_S) := (zMod_fail N (σ.1 11) σ).bind fun q17 => zMod_openGroup_b20 N x1 q17.2
theorem zMod_openGroup_b12_r (N : Nat) (x1 : Int) (hx1 : zin x1) (σ : z_S) (hσ : zR σ) : zrel (zMod_openGroup_b12 N x1 σ) (Mod_openGroup_b12 N (zI x1) (zo σ)) := by
  unfold zMod_openGroup_b12 Mod_openGroup_b12
  refine zr_bind (zr_of (zMod_fail_r N _ (hσ.1 11) _ hσ) (congr (congrArg (Mod_fail N) (zo_fld rfl 11)) rfl)) (fun r17 s17σ hr17 hs17 => ?_)
  dsimp only
  exact zr_of (zMod_openGroup_b20_r N _ hx1 _ hs17) (congr (congrArg (Mod_openGroup_b20 N) rfl) rfl)
def zMod_openGroup_b0 (N : Nat) (σ : z_S) : Option (Int × z_S) := if (σ.1 14) = 40 then zMod_openGroup_b12 N 12 σ else zMod_openGroup_b20 N 12 σ
theorem zMod_openGroup_b0_r (N : Nat) (σ : z_S) (hσ : zR σ) : zrel (zMod_openGroup_b0 N σ) (Mod_openGroup_b0 N (zo σ)) := by
  unfold zMod_openGroup_b0 Mod_openGroup_b0
  refine zr_ite (zI_eq (zo_fld rfl 14) (zl_40) (hσ.1 14) (by decide)) ?_ ?_
  · exact zr_of (zMod_openGroup_b12_r N _ (by decide) _ hσ) (congr (congrArg (Mod_openGroup_b12 N) (zl_12)) rfl)
  · exact zr_of (zMod_openGroup_b20_r N _ (by decide) _ hσ) (congr (congrArg (Mod_openGroup_b20 N) (zl_12)) rfl)
def zMod_openGroup (N : Nat) (σ : z_S) : Option (Int × z_S) := zMod_openGroup_b0 N σ
theorem zMod_openGroup_r (N : Nat) (σ : z_S) (hσ : zR σ) : zrel (zMod_openGroup N σ) (Mod_openGroup N (zo σ)) := by
  unfold zMod_openGroup Mod_openGroup
  exact zr_of (zMod_openGroup_b0_r N  _ hσ) (congrArg (Mod_openGroup_b0 N) rfl)
def zMod_closeGroup_b84 (N : Nat) (σ : z_S) : Option (Int × z_S) := some (0, σ)
theorem zMod_closeGroup_b84_r (N : Nat) (σ : z_S) (hσ : zR σ) : zrel (zMod_closeGroup_b84 N σ) (Mod_closeGroup_b84 N (zo σ)) := by
  unfold zMod_closeGroup_b84 Mod_closeGroup_b84
  exact zr_some (zl_0) (by decide) rfl hσ
def zMod_closeGroup_b52 (N : Nat) (x1 : Int) (σ : z_S) : Option (Int × z_S) := if zIn x1 1300 then if zIn (σ.1 14) 41 then (zMod_add N (σ.2 16 ((σ.1 14)).toNat) x1 (zA σ 11 (x1).toNat (σ.1 9))).bind fun q73 => zMod_closeGroup_b84 N q73.2 else none else none
theorem zMod_closeGroup_b52_r (N : Nat) (x1 : Int) (hx1 : zin x1) (σ : z_S) (hσ : zR σ) : zrel (zMod_closeGroup_b52 N x1 σ) (Mod_closeGroup_b52 N (zI x1) (zo σ)) := by
  unfold zMod_closeGroup_b52 Mod_closeGroup_b52
  refine zr_gg (zg_in rfl hx1) (fun g1 => ?_)
  refine zr_gg (zg_in (zo_fld rfl 14) (hσ.1 14)) (fun g2 => ?_)
  refine zr_bind (zr_of (zMod_add_r N _ (hσ.2 16 _) _ hx1 _ (zR_A (a := 11) (i := _) hσ (hσ.1 9))) (congr (congr (congrArg (Mod_add N) (zo_get (j := 16) rfl (zo_fld rfl 14) (hσ.1 14))) rfl) (zo_A (a := 11) rfl rfl hx1 (zo_fld rfl 9)))) (fun r73 s73σ hr73 hs73 => ?_)
  dsimp only
  exact zr_of (zMod_closeGroup_b84_r N  _ hs73) (congrArg (Mod_closeGroup_b84 N) rfl)
def zMod_closeGroup_b79 (N : Nat) (x1 : Int) (σ : z_S) : Option (Int × z_S) := (zMod_quantify N x1 σ).bind fun q81 => zMod_closeGroup_b84 N q81.2
theorem zMod_closeGroup_b79_r (N : Nat) (x1 : Int) (hx1 : zin x1) (σ : z_S) (hσ : zR σ) : zrel (zMod_closeGroup_b79 N x1 σ) (Mod_closeGroup_b79 N (zI x1) (zo σ)) := by
  unfold zMod_closeGroup_b79 Mod_closeGroup_b79
  refine zr_bind (zr_of (zMod_quantify_r N _ hx1 _ hσ) (congr (congrArg (Mod_quantify N) rfl) rfl)) (fun r81 s81σ hr81 hs81 => ?_)
  dsimp only
  exact zr_of (zMod_closeGroup_b84_r N  _ hs81) (congrArg (Mod_closeGroup_b84 N) rfl)
def zMod_closeGroup_b41 (N : Nat) (x1 : Int) (σ : z_S) : Option (Int × z_S) := if zIn x1 1300 then if (σ.2 3 (x1).toNat) = 15 then zMod_closeGroup_b52 N x1 σ else zMod_closeGroup_b79 N x1 σ else none
theorem zMod_closeGroup_b41_r (N : Nat) (x1 : Int) (hx1 : zin x1) (σ : z_S) (hσ : zR σ) : zrel (zMod_closeGroup_b41 N x1 σ) (Mod_closeGroup_b41 N (zI x1) (zo σ)) := by
  unfold zMod_closeGroup_b41 Mod_closeGroup_b41
  refine zr_gg (zg_in rfl hx1) (fun g1 => ?_)
  refine zr_ite (zI_eq (zo_get (j := 3) rfl rfl hx1) (zl_15) (hσ.2 3 _) (by decide)) ?_ ?_
  · exact zr_of (zMod_closeGroup_b52_r N _ hx1 _ hσ) (congr (congrArg (Mod_closeGroup_b52 N) rfl) rfl)
  · exact zr_of (zMod_closeGroup_b79_r N _ hx1 _ hσ) (congr (congrArg (Mod_closeGroup_b79 N) rfl) rfl)
def zMod_closeGroup_b0 (N : Nat) (σ : z_S) : Option (Int × z_S) := if zIn (σ.1 14) 41 then if zIn (σ.2 14 ((σ.1 14)).toNat) 1300 then if (σ.2 3 ((σ.2 14 ((σ.1 14)).toNat)).toNat) = 14 then if zin ((σ.1 14) - 1) then if zin ((σ.1 11) + 1) then zMod_closeGroup_b52 N (σ.2 14 ((σ.1 14)).toNat) (zF (zF σ 14 ((σ.1 14) - 1)) 11 ((σ.1 11) + 1)) else none else none else if zin ((σ.1 14) - 1) then if zin ((σ.1 11) + 1) then zMod_closeGroup_b41 N (σ.2 14 ((σ.1 14)).toNat) (zF (zF σ 14 ((σ.1 14) - 1)) 11 ((σ.1 11) + 1)) else none else none else none else none
theorem zMod_closeGroup_b0_r (N : Nat) (σ : z_S) (hσ : zR σ) : zrel (zMod_closeGroup_b0 N σ) (Mod_closeGroup_b0 N (zo σ)) := by
  unfold zMod_closeGroup_b0 Mod_closeGroup_b0
  refine zr_gg (zg_in (zo_fld rfl 14) (hσ.1 14)) (fun g1 => ?_)
  refine zr_gg (zg_in (zo_get (j := 14) rfl (zo_fld rfl 14) (hσ.1 14)) (hσ.2 14 _)) (fun g2 => ?_)
  refine zr_ite (zI_eq (zo_get (j := 3) rfl (zo_get (j := 14) rfl (zo_fld rfl 14) (hσ.1 14)) (hσ.2 14 _)) (zl_14) (hσ.2 3 _) (by decide)) ?_ ?_
  · refine zr_g (fun g3 => ?_)
    refine zr_g (fun g4 => ?_)
    exact zr_of (zMod_closeGroup_b52_r N _ (hσ.2 14 _) _ (zR_F (k := 11) (zR_F (k := 14) hσ g3) g4)) (congr (congrArg (Mod_closeGroup_b52 N) (zo_get (j := 14) rfl (zo_fld rfl 14) (hσ.1 14))) (zo_F (k := 11) (zo_F (k := 14) rfl (zI_sub (zo_fld rfl 14) (zl_1))) (zI_add (zo_fld rfl 11) (zl_1))))
  · refine zr_g (fun g5 => ?_)
    refine zr_g (fun g6 => ?_)
    exact zr_of (zMod_closeGroup_b41_r N _ (hσ.2 14 _) _ (zR_F (k := 11) (zR_F (k := 14) hσ g5) g6)) (congr (congrArg (Mod_closeGroup_b41 N) (zo_get (j := 14) rfl (zo_fld rfl 14) (hσ.1 14))) (zo_F (k := 11) (zo_F (k := 14) rfl (zI_sub (zo_fld rfl 14) (zl_1))) (zI_add (zo_fld rfl 11) (zl_1))))
def zMod_closeGroup (N : Nat) (σ : z_S) : Option (Int × z_S) := zMod_closeGroup_b0 N σ
theorem zMod_closeGroup_r (N : Nat) (σ : z_S) (hσ : zR σ) : zrel (zMod_closeGroup N σ) (Mod_closeGroup N (zo σ)) := by
  unfold zMod_closeGroup Mod_closeGroup
  exact zr_of (zMod_closeGroup_b0_r N  _ hσ) (congrArg (Mod_closeGroup_b0 N) rfl)
def zMod_assertion_b0 (N : Nat) (x1 : Int) (x2 : Int) (σ : z_S) : Option (Int × z_S) := if zIn (σ.1 14) 41 then (zMod_node N x1 0 0 0 σ).bind fun q15 => (zMod_add N (σ.2 16 ((σ.1 14)).toNat) q15.1 q15.2).bind fun q18 => if zin ((q18.2.1 11) + x2) then some (0, (zF q18.2 11 ((q18.2.1 11) + x2))) else none else none
theorem zMod_assertion_b0_r (N : Nat) (x1 : Int) (hx1 : zin x1) (x2 : Int) (hx2 : zin x2) (σ : z_S) (hσ : zR σ) : zrel (zMod_assertion_b0 N x1 x2 σ) (Mod_assertion_b0 N (zI x1) (zI x2) (zo σ)) := by
  unfold zMod_assertion_b0 Mod_assertion_b0
  refine zr_gg (zg_in (zo_fld rfl 14) (hσ.1 14)) (fun g1 => ?_)
  refine zr_bind (zr_of (zMod_node_r N _ hx1 _ (by decide) _ (by decide) _ (by decide) _ hσ) (congr (congr (congr (congr (congrArg (Mod_node N) rfl) (zl_0)) (zl_0)) (zl_0)) rfl)) (fun r15 s15σ hr15 hs15 => ?_)
  dsimp only
  refine zr_bind (zr_of (zMod_add_r N _ (hσ.2 16 _) _ hr15 _ hs15) (congr (congr (congrArg (Mod_add N) (zo_get (j := 16) rfl (zo_fld rfl 14) (hσ.1 14))) rfl) rfl)) (fun r18 s18σ hr18 hs18 => ?_)
  dsimp only
  refine zr_g (fun g2 => ?_)
  exact zr_some (zl_0) (by decide) (zo_F (k := 11) rfl (zI_add (zo_fld rfl 11) rfl)) (zR_F (k := 11) hs18 g2)
def zMod_assertion (N : Nat) (x1 : Int) (x2 : Int) (σ : z_S) : Option (Int × z_S) := zMod_assertion_b0 N x1 x2 σ
theorem zMod_assertion_r (N : Nat) (x1 : Int) (hx1 : zin x1) (x2 : Int) (hx2 : zin x2) (σ : z_S) (hσ : zR σ) : zrel (zMod_assertion N x1 x2 σ) (Mod_assertion N (zI x1) (zI x2) (zo σ)) := by
  unfold zMod_assertion Mod_assertion
  exact zr_of (zMod_assertion_b0_r N _ hx1 _ hx2 _ hσ) (congr (congr (congrArg (Mod_assertion_b0 N) rfl) rfl) rfl)
