def zMod_add_b31 (N : Nat) (x1 : Int) (x2 : Int) (σ : z_S) : Option (Int × z_S) := if zIn x1 1300 then some (0, (zA σ 8 (x1).toNat x2)) else none
theorem zMod_add_b31_r (N : Nat) (x1 : Int) (hx1 : zin x1) (x2 : Int) (hx2 : zin x2) (σ : z_S) (hσ : zR σ) : zrel (zMod_add_b31 N x1 x2 σ) (Mod_add_b31 N (zI x1) (zI x2) (zo σ)) := by
  unfold zMod_add_b31 Mod_add_b31
  refine zr_gg (zg_in rfl hx1) (fun g1 => ?_)
  exact zr_some (zl_0) (by decide) (zo_A (a := 8) rfl rfl hx1 rfl) (zR_A (a := 8) (i := _) hσ hx2)
def zMod_add_b19 (N : Nat) (x1 : Int) (x2 : Int) (σ : z_S) : Option (Int × z_S) := if zIn x1 1300 then if zIn (σ.2 8 (x1).toNat) 1300 then zMod_add_b31 N x1 x2 (zA σ 9 ((σ.2 8 (x1).toNat)).toNat x2) else none else none
theorem zMod_add_b19_r (N : Nat) (x1 : Int) (hx1 : zin x1) (x2 : Int) (hx2 : zin x2) (σ : z_S) (hσ : zR σ) : zrel (zMod_add_b19 N x1 x2 σ) (Mod_add_b19 N (zI x1) (zI x2) (zo σ)) := by
  unfold zMod_add_b19 Mod_add_b19
  refine zr_gg (zg_in rfl hx1) (fun g1 => ?_)
  refine zr_gg (zg_in (zo_get (j := 8) rfl rfl hx1) (hσ.2 8 _)) (fun g2 => ?_)
  exact zr_of (zMod_add_b31_r N _ hx1 _ hx2 _ (zR_A (a := 9) (i := _) hσ hx2)) (congr (congr (congrArg (Mod_add_b31 N) rfl) rfl) (zo_A (a := 9) rfl (zo_get (j := 8) rfl rfl hx1) (hσ.2 8 _) rfl))
def zMod_add_b9 (N : Nat) (x1 : Int) (x2 : Int) (σ : z_S) : Option (Int × z_S) := if zIn x1 1300 then zMod_add_b31 N x1 x2 (zA σ 7 (x1).toNat x2) else none
theorem zMod_add_b9_r (N : Nat) (x1 : Int) (hx1 : zin x1) (x2 : Int) (hx2 : zin x2) (σ : z_S) (hσ : zR σ) : zrel (zMod_add_b9 N x1 x2 σ) (Mod_add_b9 N (zI x1) (zI x2) (zo σ)) := by
  unfold zMod_add_b9 Mod_add_b9
  refine zr_gg (zg_in rfl hx1) (fun g1 => ?_)
  exact zr_of (zMod_add_b31_r N _ hx1 _ hx2 _ (zR_A (a := 7) (i := _) hσ hx2)) (congr (congr (congrArg (Mod_add_b31 N) rfl) rfl) (zo_A (a := 7) rfl rfl hx1 rfl))
def zMod_add_b0 (N : Nat) (x1 : Int) (x2 : Int) (σ : z_S) : Option (Int × z_S) := if zIn x1 1300 then if (0 : Int) ≤ (σ.2 7 (x1).toNat) then zMod_add_b19 N x1 x2 σ else zMod_add_b9 N x1 x2 σ else none
theorem zMod_add_b0_r (N : Nat) (x1 : Int) (hx1 : zin x1) (x2 : Int) (hx2 : zin x2) (σ : z_S) (hσ : zR σ) : zrel (zMod_add_b0 N x1 x2 σ) (Mod_add_b0 N (zI x1) (zI x2) (zo σ)) := by
  unfold zMod_add_b0 Mod_add_b0
  refine zr_gg (zg_in rfl hx1) (fun g1 => ?_)
  refine zr_ite (zI_le (zl_0) (zo_get (j := 7) rfl rfl hx1) (by decide) (hσ.2 7 _)) ?_ ?_
  · exact zr_of (zMod_add_b19_r N _ hx1 _ hx2 _ hσ) (congr (congr (congrArg (Mod_add_b19 N) rfl) rfl) rfl)
  · exact zr_of (zMod_add_b9_r N _ hx1 _ hx2 _ hσ) (congr (congr (congrArg (Mod_add_b9 N) rfl) rfl) rfl)
def zMod_add (N : Nat) (x1 : Int) (x2 : Int) (σ : z_S) : Option (Int × z_S) := zMod_add_b0 N x1 x2 σ
theorem zMod_add_r (N : Nat) (x1 : Int) (hx1 : zin x1) (x2 : Int) (hx2 : zin x2) (σ : z_S) (hσ : zR σ) : zrel (zMod_add N x1 x2 σ) (Mod_add N (zI x1) (zI x2) (zo σ)) := by
  unfold zMod_add Mod_add
  exact zr_of (zMod_add_b0_r N _ hx1 _ hx2 _ hσ) (congr (congr (congrArg (Mod_add_b0 N) rfl) rfl) rfl)
def zMod_newAlternative_b0 (N : Nat) (σ : z_S) : Option (Int × z_S) := (zMod_node N 2 0 0 0 σ).bind fun q13 => if zIn (σ.1 14) 41 then if zIn (q13.2.1 14) 41 then (zMod_add N (q13.2.2 15 ((q13.2.1 14)).toNat) ((zA q13.2 16 ((σ.1 14)).toNat q13.1).2 16 ((q13.2.1 14)).toNat) (zA q13.2 16 ((σ.1 14)).toNat q13.1)).bind fun q36 => some (0, q36.2) else none else none
theorem zMod_newAlternative_b0_r (N : Nat) (σ : z_S) (hσ : zR σ) : zrel (zMod_newAlternative_b0 N σ) (Mod_newAlternative_b0 N (zo σ)) := by
  unfold zMod_newAlternative_b0 Mod_newAlternative_b0
  refine zr_bind (zr_of (zMod_node_r N _ (by decide) _ (by decide) _ (by decide) _ (by decide) _ hσ) (congr (congr (congr (congr (congrArg (Mod_node N) (zl_2)) (zl_0)) (zl_0)) (zl_0)) rfl)) (fun r13 s13σ hr13 hs13 => ?_)
  dsimp only
  refine zr_gg (zg_in (zo_fld rfl 14) (hσ.1 14)) (fun g1 => ?_)
  refine zr_gg (zg_in (zo_fld rfl 14) (hs13.1 14)) (fun g2 => ?_)
  refine zr_bind (zr_of (zMod_add_r N _ (hs13.2 15 _) _ ((zR_A (a := 16) (i := _) hs13 hr13).2 16 _) _ (zR_A (a := 16) (i := _) hs13 hr13)) (congr (congr (congrArg (Mod_add N) (zo_get (j := 15) rfl (zo_fld rfl 14) (hs13.1 14))) (zo_get (j := 16) (zo_A (a := 16) rfl (zo_fld rfl 14) (hσ.1 14) rfl) (zo_fld rfl 14) (hs13.1 14))) (zo_A (a := 16) rfl (zo_fld rfl 14) (hσ.1 14) rfl))) (fun r36 s36σ hr36 hs36 => ?_)
  dsimp only
  exact zr_some (zl_0) (by decide) rfl hs36
def zMod_newAlternative (N : Nat) (σ : z_S) : Option (Int × z_S) := zMod_newAlternative_b0 N σ
theorem zMod_newAlternative_r (N : Nat) (σ : z_S) (hσ : zR σ) : zrel (zMod_newAlternative N σ) (Mod_newAlternative N (zo σ)) := by
  unfold zMod_newAlternative Mod_newAlternative
  exact zr_of (zMod_newAlternative_b0_r N  _ hσ) (congrArg (Mod_newAlternative_b0 N) rfl)
def zMod_opens_b45 (N : Nat) (σ : z_S) : Option (Int × z_S) := (zMod_newAlternative N σ).bind fun q46 => some (0, q46.2)
theorem zMod_opens_b45_r (N : Nat) (σ : z_S) (hσ : zR σ) : zrel (zMod_opens_b45 N σ) (Mod_opens_b45 N (zo σ)) := by
  unfold zMod_opens_b45 Mod_opens_b45
  refine zr_bind (zr_of (zMod_newAlternative_r N  _ hσ) (congrArg (Mod_newAlternative N) rfl)) (fun r46 s46σ hr46 hs46 => ?_)
  dsimp only
  exact zr_some (zl_0) (by decide) rfl hs46
def zMod_opens_b31 (N : Nat) (x1 : Int) (σ : z_S) : Option (Int × z_S) := if zIn (σ.1 14) 41 then (zMod_add N x1 (σ.2 15 ((σ.1 14)).toNat) σ).bind fun q42 => zMod_opens_b45 N q42.2 else none
theorem zMod_opens_b31_r (N : Nat) (x1 : Int) (hx1 : zin x1) (σ : z_S) (hσ : zR σ) : zrel (zMod_opens_b31 N x1 σ) (Mod_opens_b31 N (zI x1) (zo σ)) := by
  unfold zMod_opens_b31 Mod_opens_b31
  refine zr_gg (zg_in (zo_fld rfl 14) (hσ.1 14)) (fun g1 => ?_)
  refine zr_bind (zr_of (zMod_add_r N _ hx1 _ (hσ.2 15 _) _ hσ) (congr (congr (congrArg (Mod_add N) rfl) (zo_get (j := 15) rfl (zo_fld rfl 14) (hσ.1 14))) rfl)) (fun r42 s42σ hr42 hs42 => ?_)
  dsimp only
  exact zr_of (zMod_opens_b45_r N  _ hs42) (congrArg (Mod_opens_b45 N) rfl)
def zMod_opens_b0 (N : Nat) (x1 : Int) (σ : z_S) : Option (Int × z_S) := if zIn (σ.1 14) 41 then (zMod_node N 1 0 0 0 (zA σ 14 ((σ.1 14)).toNat x1)).bind fun q23 => if x1 < 0 then zMod_opens_b45 N (zA q23.2 15 ((σ.1 14)).toNat q23.1) else zMod_opens_b31 N x1 (zA q23.2 15 ((σ.1 14)).toNat q23.1) else none
theorem zMod_opens_b0_r (N : Nat) (x1 : Int) (hx1 : zin x1) (σ : z_S) (hσ : zR σ) : zrel (zMod_opens_b0 N x1 σ) (Mod_opens_b0 N (zI x1) (zo σ)) := by
  unfold zMod_opens_b0 Mod_opens_b0
  refine zr_gg (zg_in (zo_fld rfl 14) (hσ.1 14)) (fun g1 => ?_)
  refine zr_bind (zr_of (zMod_node_r N _ (by decide) _ (by decide) _ (by decide) _ (by decide) _ (zR_A (a := 14) (i := _) hσ hx1)) (congr (congr (congr (congr (congrArg (Mod_node N) (zl_1)) (zl_0)) (zl_0)) (zl_0)) (zo_A (a := 14) rfl (zo_fld rfl 14) (hσ.1 14) rfl))) (fun r23 s23σ hr23 hs23 => ?_)
  dsimp only
  refine zr_ite (zI_lt rfl (zl_0) hx1 (by decide)) ?_ ?_
  · exact zr_of (zMod_opens_b45_r N  _ (zR_A (a := 15) (i := _) hs23 hr23)) (congrArg (Mod_opens_b45 N) (zo_A (a := 15) rfl (zo_fld rfl 14) (hσ.1 14) rfl))
  · exact zr_of (zMod_opens_b31_r N _ hx1 _ (zR_A (a := 15) (i := _) hs23 hr23)) (congr (congrArg (Mod_opens_b31 N) rfl) (zo_A (a := 15) rfl (zo_fld rfl 14) (hσ.1 14) rfl))
def zMod_opens (N : Nat) (x1 : Int) (σ : z_S) : Option (Int × z_S) := zMod_opens_b0 N x1 σ
theorem zMod_opens_r (N : Nat) (x1 : Int) (hx1 : zin x1) (σ : z_S) (hσ : zR σ) : zrel (zMod_opens N x1 σ) (Mod_opens N (zI x1) (zo σ)) := by
  unfold zMod_opens Mod_opens
  exact zr_of (zMod_opens_b0_r N _ hx1 _ hσ) (congr (congrArg (Mod_opens_b0 N) rfl) rfl)
def zMod_digits_b82 (N : Nat) (x3 : Int) (σ : z_S) : Option (Int × z_S) := some (x3, σ)
theorem zMod_digits_b82_r (N : Nat) (x3 : Int) (hx3 : zin x3) (σ : z_S) (hσ : zR σ) : zrel (zMod_digits_b82 N x3 σ) (Mod_digits_b82 N (zI x3) (zo σ)) := by
  unfold zMod_digits_b82 Mod_digits_b82
  exact zr_some rfl hx3 rfl hσ
def zMod_digits_b68 (N : Nat) (k5 : Int → Int → Int → Int → z_S → Option (Int × z_S)) (x1 : Int) (x2 : Int) (x3 : Int) (x4 : Int) (x5 : Int) (σ : z_S) : Option (Int × z_S) := if zin (16 * x3) then if zin ((16 * x3) + x5) then if zin (x4 + 1) then k5 x1 x2 ((16 * x3) + x5) (x4 + 1) σ else none else none else none
theorem zMod_digits_b68_r (N : Nat) (k5 : Int → Int → Int → Int → z_S → Option (Int × z_S)) (k5' : Int32 → Int32 → Int32 → Int32 → g_S → Option (Int32 × g_S)) (hk5 : ∀ (y0 : Int) (_ : zin y0) (y1 : Int) (_ : zin y1) (y2 : Int) (_ : zin y2) (y3 : Int) (_ : zin y3) (σ : z_S), zR σ → zrel (k5 y0 y1 y2 y3 σ) (k5' (zI y0) (zI y1) (zI y2) (zI y3) (zo σ))) (x1 : Int) (hx1 : zin x1) (x2 : Int) (hx2 : zin x2) (x3 : Int) (hx3 : zin x3) (x4 : Int) (hx4 : zin x4) (x5 : Int) (hx5 : zin x5) (σ : z_S) (hσ : zR σ) : zrel (zMod_digits_b68 N k5 x1 x2 x3 x4 x5 σ) (Mod_digits_b68 N k5' (zI x1) (zI x2) (zI x3) (zI x4) (zI x5) (zo σ)) := by
  unfold zMod_digits_b68 Mod_digits_b68
  refine zr_g (fun g1 => ?_)
  refine zr_g (fun g2 => ?_)
  refine zr_g (fun g3 => ?_)
  exact zr_of (hk5 _ hx1 _ hx2 _ g2 _ g3 _ hσ) (congr (congr (congr (congr (congrArg (k5') rfl) rfl) (zI_add (zI_mul (zl_16) rfl) rfl)) (zI_add rfl (zl_1))) rfl)
def zMod_digits_b65 (N : Nat) (k5 : Int → Int → Int → Int → z_S → Option (Int × z_S)) (x1 : Int) (x2 : Int) (x3 : Int) (x4 : Int) (x5 : Int) (s1 : Int) (σ : z_S) : Option (Int × z_S) := (zMod_fail N s1 σ).bind fun q65 => zMod_digits_b68 N k5 x1 x2 x3 x4 x5 q65.2
theorem zMod_digits_b65_r (N : Nat) (k5 : Int → Int → Int → Int → z_S → Option (Int × z_S)) (k5' : Int32 → Int32 → Int32 → Int32 → g_S → Option (Int32 × g_S)) (hk5 : ∀ (y0 : Int) (_ : zin y0) (y1 : Int) (_ : zin y1) (y2 : Int) (_ : zin y2) (y3 : Int) (_ : zin y3) (σ : z_S), zR σ → zrel (k5 y0 y1 y2 y3 σ) (k5' (zI y0) (zI y1) (zI y2) (zI y3) (zo σ))) (x1 : Int) (hx1 : zin x1) (x2 : Int) (hx2 : zin x2) (x3 : Int) (hx3 : zin x3) (x4 : Int) (hx4 : zin x4) (x5 : Int) (hx5 : zin x5) (s1 : Int) (hs1 : zin s1) (σ : z_S) (hσ : zR σ) : zrel (zMod_digits_b65 N k5 x1 x2 x3 x4 x5 s1 σ) (Mod_digits_b65 N k5' (zI x1) (zI x2) (zI x3) (zI x4) (zI x5) (zI s1) (zo σ)) := by
  unfold zMod_digits_b65 Mod_digits_b65
  refine zr_bind (zr_of (zMod_fail_r N _ hs1 _ hσ) (congr (congrArg (Mod_fail N) rfl) rfl)) (fun r65 s65σ hr65 hs65 => ?_)
  dsimp only
  exact zr_of (zMod_digits_b68_r N k5 k5' hk5 _ hx1 _ hx2 _ hx3 _ hx4 _ hx5 _ hs65) (congr (congr (congr (congr (congr (congrArg (Mod_digits_b68 N k5') rfl) rfl) rfl) rfl) rfl) rfl)
def zMod_digits_b61 (N : Nat) (k5 : Int → Int → Int → Int → z_S → Option (Int × z_S)) (x1 : Int) (x2 : Int) (x3 : Int) (x4 : Int) (x5 : Int) (σ : z_S) : Option (Int × z_S) := zMod_digits_b65 N k5 x1 x2 x3 x4 x5 (σ.1 2) σ
theorem zMod_digits_b61_r (N : Nat) (k5 : Int → Int → Int → Int → z_S → Option (Int × z_S)) (k5' : Int32 → Int32 → Int32 → Int32 → g_S → Option (Int32 × g_S)) (hk5 : ∀ (y0 : Int) (_ : zin y0) (y1 : Int) (_ : zin y1) (y2 : Int) (_ : zin y2) (y3 : Int) (_ : zin y3) (σ : z_S), zR σ → zrel (k5 y0 y1 y2 y3 σ) (k5' (zI y0) (zI y1) (zI y2) (zI y3) (zo σ))) (x1 : Int) (hx1 : zin x1) (x2 : Int) (hx2 : zin x2) (x3 : Int) (hx3 : zin x3) (x4 : Int) (hx4 : zin x4) (x5 : Int) (hx5 : zin x5) (σ : z_S) (hσ : zR σ) : zrel (zMod_digits_b61 N k5 x1 x2 x3 x4 x5 σ) (Mod_digits_b61 N k5' (zI x1) (zI x2) (zI x3) (zI x4) (zI x5) (zo σ)) := by
  unfold zMod_digits_b61 Mod_digits_b61
  exact zr_of (zMod_digits_b65_r N k5 k5' hk5 _ hx1 _ hx2 _ hx3 _ hx4 _ hx5 _ (hσ.1 2) _ hσ) (congr (congr (congr (congr (congr (congr (congrArg (Mod_digits_b65 N k5') rfl) rfl) rfl) rfl) rfl) (zo_fld rfl 2)) rfl)
def zMod_digits_b51 (N : Nat) (k5 : Int → Int → Int → Int → z_S → Option (Int × z_S)) (x1 : Int) (x2 : Int) (x3 : Int) (x4 : Int) (x5 : Int) (σ : z_S) : Option (Int × z_S) := if zin ((σ.1 11) + x4) then zMod_digits_b65 N k5 x1 x2 x3 x4 x5 ((σ.1 11) + x4) σ else none
theorem zMod_digits_b51_r (N : Nat) (k5 : Int → Int → Int → Int → z_S → Option (Int × z_S)) (k5' : Int32 → Int32 → Int32 → Int32 → g_S → Option (Int32 × g_S)) (hk5 : ∀ (y0 : Int) (_ : zin y0) (y1 : Int) (_ : zin y1) (y2 : Int) (_ : zin y2) (y3 : Int) (_ : zin y3) (σ : z_S), zR σ → zrel (k5 y0 y1 y2 y3 σ) (k5' (zI y0) (zI y1) (zI y2) (zI y3) (zo σ))) (x1 : Int) (hx1 : zin x1) (x2 : Int) (hx2 : zin x2) (x3 : Int) (hx3 : zin x3) (x4 : Int) (hx4 : zin x4) (x5 : Int) (hx5 : zin x5) (σ : z_S) (hσ : zR σ) : zrel (zMod_digits_b51 N k5 x1 x2 x3 x4 x5 σ) (Mod_digits_b51 N k5' (zI x1) (zI x2) (zI x3) (zI x4) (zI x5) (zo σ)) := by
  unfold zMod_digits_b51 Mod_digits_b51
  refine zr_g (fun g1 => ?_)
  exact zr_of (zMod_digits_b65_r N k5 k5' hk5 _ hx1 _ hx2 _ hx3 _ hx4 _ hx5 _ g1 _ hσ) (congr (congr (congr (congr (congr (congr (congrArg (Mod_digits_b65 N k5') rfl) rfl) rfl) rfl) rfl) (zI_add (zo_fld rfl 11) rfl)) rfl)
def zMod_digits_b36 (N : Nat) (k5 : Int → Int → Int → Int → z_S → Option (Int × z_S)) (x1 : Int) (x2 : Int) (x3 : Int) (x4 : Int) (x5 : Int) (σ : z_S) : Option (Int × z_S) := if zin ((σ.1 11) + x4) then if (σ.1 2) ≤ ((σ.1 11) + x4) then zMod_digits_b61 N k5 x1 x2 x3 x4 x5 σ else zMod_digits_b51 N k5 x1 x2 x3 x4 x5 σ else none
theorem zMod_digits_b36_r (N : Nat) (k5 : Int → Int → Int → Int → z_S → Option (Int × z_S)) (k5' : Int32 → Int32 → Int32 → Int32 → g_S → Option (Int32 × g_S)) (hk5 : ∀ (y0 : Int) (_ : zin y0) (y1 : Int) (_ : zin y1) (y2 : Int) (_ : zin y2) (y3 : Int) (_ : zin y3) (σ : z_S), zR σ → zrel (k5 y0 y1 y2 y3 σ) (k5' (zI y0) (zI y1) (zI y2) (zI y3) (zo σ))) (x1 : Int) (hx1 : zin x1) (x2 : Int) (hx2 : zin x2) (x3 : Int) (hx3 : zin x3) (x4 : Int) (hx4 : zin x4) (x5 : Int) (hx5 : zin x5) (σ : z_S) (hσ : zR σ) : zrel (zMod_digits_b36 N k5 x1 x2 x3 x4 x5 σ) (Mod_digits_b36 N k5' (zI x1) (zI x2) (zI x3) (zI x4) (zI x5) (zo σ)) := by
  unfold zMod_digits_b36 Mod_digits_b36
  refine zr_g (fun g1 => ?_)
  refine zr_ite (zI_le (zo_fld rfl 2) (zI_add (zo_fld rfl 11) rfl) (hσ.1 2) g1) ?_ ?_
  · exact zr_of (zMod_digits_b61_r N k5 k5' hk5 _ hx1 _ hx2 _ hx3 _ hx4 _ hx5 _ hσ) (congr (congr (congr (congr (congr (congrArg (Mod_digits_b61 N k5') rfl) rfl) rfl) rfl) rfl) rfl)
  · exact zr_of (zMod_digits_b51_r N k5 k5' hk5 _ hx1 _ hx2 _ hx3 _ hx4 _ hx5 _ hσ) (congr (congr (congr (congr (congr (congrArg (Mod_digits_b51 N k5') rfl) rfl) rfl) rfl) rfl) rfl)
def zMod_digits_b20 (N : Nat) (k5 : Int → Int → Int → Int → z_S → Option (Int × z_S)) (x1 : Int) (x2 : Int) (x3 : Int) (x4 : Int) (σ : z_S) : Option (Int × z_S) := (zMod_see N x4 σ).bind fun q23 => (zMod_sixteen N q23.1 q23.2).bind fun q26 => if (0 : Int) ≤ q26.1 then zMod_digits_b68 N k5 x1 x2 x3 x4 q26.1 q26.2 else zMod_digits_b36 N k5 x1 x2 x3 x4 q26.1 q26.2
theorem zMod_digits_b20_r (N : Nat) (k5 : Int → Int → Int → Int → z_S → Option (Int × z_S)) (k5' : Int32 → Int32 → Int32 → Int32 → g_S → Option (Int32 × g_S)) (hk5 : ∀ (y0 : Int) (_ : zin y0) (y1 : Int) (_ : zin y1) (y2 : Int) (_ : zin y2) (y3 : Int) (_ : zin y3) (σ : z_S), zR σ → zrel (k5 y0 y1 y2 y3 σ) (k5' (zI y0) (zI y1) (zI y2) (zI y3) (zo σ))) (x1 : Int) (hx1 : zin x1) (x2 : Int) (hx2 : zin x2) (x3 : Int) (hx3 : zin x3) (x4 : Int) (hx4 : zin x4) (σ : z_S) (hσ : zR σ) : zrel (zMod_digits_b20 N k5 x1 x2 x3 x4 σ) (Mod_digits_b20 N k5' (zI x1) (zI x2) (zI x3) (zI x4) (zo σ)) := by
  unfold zMod_digits_b20 Mod_digits_b20
  refine zr_bind (zr_of (zMod_see_r N _ hx4 _ hσ) (congr (congrArg (Mod_see N) rfl) rfl)) (fun r23 s23σ hr23 hs23 => ?_)
  dsimp only
  refine zr_bind (zr_of (zMod_sixteen_r N _ hr23 _ hs23) (congr (congrArg (Mod_sixteen N) rfl) rfl)) (fun r26 s26σ hr26 hs26 => ?_)
  dsimp only
  refine zr_ite (zI_le (zl_0) rfl (by decide) hr26) ?_ ?_
  · exact zr_of (zMod_digits_b68_r N k5 k5' hk5 _ hx1 _ hx2 _ hx3 _ hx4 _ hr26 _ hs26) (congr (congr (congr (congr (congr (congrArg (Mod_digits_b68 N k5') rfl) rfl) rfl) rfl) rfl) rfl)
  · exact zr_of (zMod_digits_b36_r N k5 k5' hk5 _ hx1 _ hx2 _ hx3 _ hx4 _ hr26 _ hs26) (congr (congr (congr (congr (congr (congrArg (Mod_digits_b36 N k5') rfl) rfl) rfl) rfl) rfl) rfl)
def zMod_digits_b13 (N : Nat) (k5 : Int → Int → Int → Int → z_S → Option (Int × z_S)) (x1 : Int) (x2 : Int) (x3 : Int) (x4 : Int) (σ : z_S) : Option (Int × z_S) := if (0 : Int) ≤ (σ.1 12) then zMod_digits_b82 N x3 σ else zMod_digits_b20 N k5 x1 x2 x3 x4 σ
theorem zMod_digits_b13_r (N : Nat) (k5 : Int → Int → Int → Int → z_S → Option (Int × z_S)) (k5' : Int32 → Int32 → Int32 → Int32 → g_S → Option (Int32 × g_S)) (hk5 : ∀ (y0 : Int) (_ : zin y0) (y1 : Int) (_ : zin y1) (y2 : Int) (_ : zin y2) (y3 : Int) (_ : zin y3) (σ : z_S), zR σ → zrel (k5 y0 y1 y2 y3 σ) (k5' (zI y0) (zI y1) (zI y2) (zI y3) (zo σ))) (x1 : Int) (hx1 : zin x1) (x2 : Int) (hx2 : zin x2) (x3 : Int) (hx3 : zin x3) (x4 : Int) (hx4 : zin x4) (σ : z_S) (hσ : zR σ) : zrel (zMod_digits_b13 N k5 x1 x2 x3 x4 σ) (Mod_digits_b13 N k5' (zI x1) (zI x2) (zI x3) (zI x4) (zo σ)) := by
  unfold zMod_digits_b13 Mod_digits_b13
  refine zr_ite (zI_le (zl_0) (zo_fld rfl 12) (by decide) (hσ.1 12)) ?_ ?_
  · exact zr_of (zMod_digits_b82_r N _ hx3 _ hσ) (congr (congrArg (Mod_digits_b82 N) rfl) rfl)
  · exact zr_of (zMod_digits_b20_r N k5 k5' hk5 _ hx1 _ hx2 _ hx3 _ hx4 _ hσ) (congr (congr (congr (congr (congrArg (Mod_digits_b20 N k5') rfl) rfl) rfl) rfl) rfl)
def zMod_digits_b5 (N : Nat) (k5 : Int → Int → Int → Int → z_S → Option (Int × z_S)) (x1 : Int) (x2 : Int) (x3 : Int) (x4 : Int) (σ : z_S) : Option (Int × z_S) := if zin (x1 + x2) then if (x1 + x2) ≤ x4 then zMod_digits_b82 N x3 σ else zMod_digits_b13 N k5 x1 x2 x3 x4 σ else none
theorem zMod_digits_b5_r (N : Nat) (k5 : Int → Int → Int → Int → z_S → Option (Int × z_S)) (k5' : Int32 → Int32 → Int32 → Int32 → g_S → Option (Int32 × g_S)) (hk5 : ∀ (y0 : Int) (_ : zin y0) (y1 : Int) (_ : zin y1) (y2 : Int) (_ : zin y2) (y3 : Int) (_ : zin y3) (σ : z_S), zR σ → zrel (k5 y0 y1 y2 y3 σ) (k5' (zI y0) (zI y1) (zI y2) (zI y3) (zo σ))) (x1 : Int) (hx1 : zin x1) (x2 : Int) (hx2 : zin x2) (x3 : Int) (hx3 : zin x3) (x4 : Int) (hx4 : zin x4) (σ : z_S) (hσ : zR σ) : zrel (zMod_digits_b5 N k5 x1 x2 x3 x4 σ) (Mod_digits_b5 N k5' (zI x1) (zI x2) (zI x3) (zI x4) (zo σ)) := by
  unfold zMod_digits_b5 Mod_digits_b5
  refine zr_g (fun g1 => ?_)
  refine zr_ite (zI_le (zI_add rfl rfl) rfl g1 hx4) ?_ ?_
  · exact zr_of (zMod_digits_b82_r N _ hx3 _ hσ) (congr (congrArg (Mod_digits_b82 N) rfl) rfl)
  · exact zr_of (zMod_digits_b13_r N k5 k5' hk5 _ hx1 _ hx2 _ hx3 _ hx4 _ hσ) (congr (congr (congr (congr (congrArg (Mod_digits_b13 N k5') rfl) rfl) rfl) rfl) rfl)
def zMod_digits_l5 (N : Nat) : Nat → Int → Int → Int → Int → z_S → Option (Int × z_S)
  | 0 => fun _ _ _ _ _ => none
  | n + 1 => fun x1 x2 x3 x4 σ => zMod_digits_b5 N (zMod_digits_l5 N n) x1 x2 x3 x4 σ
theorem zMod_digits_l5_r (N : Nat) (n : Nat) : ∀ (x1 : Int) (hx1 : zin x1) (x2 : Int) (hx2 : zin x2) (x3 : Int) (hx3 : zin x3) (x4 : Int) (hx4 : zin x4) (σ : z_S) (_ : zR σ), zrel (zMod_digits_l5 N n x1 x2 x3 x4 σ) (Mod_digits_l5 N n (zI x1) (zI x2) (zI x3) (zI x4) (zo σ)) := by
  induction n with
  | zero => intro x1 hx1 x2 hx2 x3 hx3 x4 hx4 σ hσ r s h; cases h
  | succ n ih => intro x1 hx1 x2 hx2 x3 hx3 x4 hx4 σ hσ; exact zMod_digits_b5_r N _ _ (fun x1 hx1 x2 hx2 x3 hx3 x4 hx4 σ hσ => ih x1 hx1 x2 hx2 x3 hx3 x4 hx4 σ hσ) x1 hx1 x2 hx2 x3 hx3 x4 hx4 σ hσ
def zMod_digits_b0 (N : Nat) (x1 : Int) (x2 : Int) (σ : z_S) : Option (Int × z_S) := zMod_digits_l5 N N x1 x2 0 x1 σ
theorem zMod_digits_b0_r (N : Nat) (x1 : Int) (hx1 : zin x1) (x2 : Int) (hx2 : zin x2) (σ : z_S) (hσ : zR σ) : zrel (zMod_digits_b0 N x1 x2 σ) (Mod_digits_b0 N (zI x1) (zI x2) (zo σ)) := by
  unfold zMod_digits_b0 Mod_digits_b0
  exact zr_of (zMod_digits_l5_r N N _ hx1 _ hx2 _ (by decide) _ hx1 _ hσ) (congr (congr (congr (congr (congrArg (Mod_digits_l5 N N) rfl) rfl) (zl_0)) rfl) rfl)
def zMod_digits (N : Nat) (x1 : Int) (x2 : Int) (σ : z_S) : Option (Int × z_S) := zMod_digits_b0 N x1 x2 σ
theorem zMod_digits_r (N : Nat) (x1 : Int) (hx1 : zin x1) (x2 : Int) (hx2 : zin x2) (σ : z_S) (hσ : zR σ) : zrel (zMod_digits N x1 x2 σ) (Mod_digits N (zI x1) (zI x2) (zo σ)) := by
  unfold zMod_digits Mod_digits
  exact zr_of (zMod_digits_b0_r N _ hx1 _ hx2 _ hσ) (congr (congr (congrArg (Mod_digits_b0 N) rfl) rfl) rfl)
def zMod_escape_b180 (N : Nat) (σ : z_S) : Option (Int × z_S) := if zin ((σ.1 11) + 1) then some (1, (zF σ 11 ((σ.1 11) + 1))) else none
theorem zMod_escape_b180_r (N : Nat) (σ : z_S) (hσ : zR σ) : zrel (zMod_escape_b180 N σ) (Mod_escape_b180 N (zo σ)) := by
  unfold zMod_escape_b180 Mod_escape_b180
  refine zr_g (fun g1 => ?_)
  exact zr_some (zl_1) (by decide) (zo_F (k := 11) rfl (zI_add (zo_fld rfl 11) (zl_1))) (zR_F (k := 11) hσ g1)
def zMod_escape_b240 (N : Nat) (s1 : Int) (s2 : Int) (σ : z_S) : Option (Int × z_S) := if zin (s1 + s2) then some (0, (zF σ 11 (s1 + s2))) else none
theorem zMod_escape_b240_r (N : Nat) (s1 : Int) (hs1 : zin s1) (s2 : Int) (hs2 : zin s2) (σ : z_S) (hσ : zR σ) : zrel (zMod_escape_b240 N s1 s2 σ) (Mod_escape_b240 N (zI s1) (zI s2) (zo σ)) := by
  unfold zMod_escape_b240 Mod_escape_b240
  refine zr_g (fun g1 => ?_)
  exact zr_some (zl_0) (by decide) (zo_F (k := 11) rfl (zI_add rfl rfl)) (zR_F (k := 11) hσ g1)
def zMod_escape_b239 (N : Nat) (s1 : Int) (σ : z_S) : Option (Int × z_S) := zMod_escape_b240 N s1 5 σ
theorem zMod_escape_b239_r (N : Nat) (s1 : Int) (hs1 : zin s1) (σ : z_S) (hσ : zR σ) : zrel (zMod_escape_b239 N s1 σ) (Mod_escape_b239 N (zI s1) (zo σ)) := by
  unfold zMod_escape_b239 Mod_escape_b239
  exact zr_of (zMod_escape_b240_r N _ hs1 _ (by decide) _ hσ) (congr (congr (congrArg (Mod_escape_b240 N) rfl) (zl_5)) rfl)
def zMod_escape_b235 (N : Nat) (s1 : Int) (σ : z_S) : Option (Int × z_S) := zMod_escape_b240 N s1 3 σ
theorem zMod_escape_b235_r (N : Nat) (s1 : Int) (hs1 : zin s1) (σ : z_S) (hσ : zR σ) : zrel (zMod_escape_b235 N s1 σ) (Mod_escape_b235 N (zI s1) (zo σ)) := by
  unfold zMod_escape_b235 Mod_escape_b235
  exact zr_of (zMod_escape_b240_r N _ hs1 _ (by decide) _ hσ) (congr (congr (congrArg (Mod_escape_b240 N) rfl) (zl_3)) rfl)
def zMod_escape_b218 (N : Nat) (x2 : Int) (s2 : Int) (s3 : Int) (σ : z_S) : Option (Int × z_S) := (zMod_digits N s2 s3 σ).bind fun q218 => if x2 = 120 then zMod_escape_b235 N (q218.2.1 11) (zF q218.2 13 q218.1) else zMod_escape_b239 N (q218.2.1 11) (zF q218.2 13 q218.1)
theorem zMod_escape_b218_r (N : Nat) (x2 : Int) (hx2 : zin x2) (s2 : Int) (hs2 : zin s2) (s3 : Int) (hs3 : zin s3) (σ : z_S) (hσ : zR σ) : zrel (zMod_escape_b218 N x2 s2 s3 σ) (Mod_escape_b218 N (zI x2) (zI s2) (zI s3) (zo σ)) := by
  unfold zMod_escape_b218 Mod_escape_b218
  refine zr_bind (zr_of (zMod_digits_r N _ hs2 _ hs3 _ hσ) (congr (congr (congrArg (Mod_digits N) rfl) rfl) rfl)) (fun r218 s218σ hr218 hs218 => ?_)
  dsimp only
  refine zr_ite (zI_eq rfl (zl_120) hx2 (by decide)) ?_ ?_
  · exact zr_of (zMod_escape_b235_r N _ (hs218.1 11) _ (zR_F (k := 13) hs218 hr218)) (congr (congrArg (Mod_escape_b235 N) (zo_fld rfl 11)) (zo_F (k := 13) rfl rfl))
  · exact zr_of (zMod_escape_b239_r N _ (hs218.1 11) _ (zR_F (k := 13) hs218 hr218)) (congr (congrArg (Mod_escape_b239 N) (zo_fld rfl 11)) (zo_F (k := 13) rfl rfl))
def zMod_escape_b217 (N : Nat) (x2 : Int) (s2 : Int) (σ : z_S) : Option (Int × z_S) := zMod_escape_b218 N x2 s2 4 σ
theorem zMod_escape_b217_r (N : Nat) (x2 : Int) (hx2 : zin x2) (s2 : Int) (hs2 : zin s2) (σ : z_S) (hσ : zR σ) : zrel (zMod_escape_b217 N x2 s2 σ) (Mod_escape_b217 N (zI x2) (zI s2) (zo σ)) := by
  unfold zMod_escape_b217 Mod_escape_b217
  exact zr_of (zMod_escape_b218_r N _ hx2 _ hs2 _ (by decide) _ hσ) (congr (congr (congr (congrArg (Mod_escape_b218 N) rfl) rfl) (zl_4)) rfl)
def zMod_escape_b213 (N : Nat) (x2 : Int) (s2 : Int) (σ : z_S) : Option (Int × z_S) := zMod_escape_b218 N x2 s2 2 σ
theorem zMod_escape_b213_r (N : Nat) (x2 : Int) (hx2 : zin x2) (s2 : Int) (hs2 : zin s2) (σ : z_S) (hσ : zR σ) : zrel (zMod_escape_b213 N x2 s2 σ) (Mod_escape_b213 N (zI x2) (zI s2) (zo σ)) := by
  unfold zMod_escape_b213 Mod_escape_b213
  exact zr_of (zMod_escape_b218_r N _ hx2 _ hs2 _ (by decide) _ hσ) (congr (congr (congr (congrArg (Mod_escape_b218 N) rfl) rfl) (zl_2)) rfl)
def zMod_escape_b204 (N : Nat) (x2 : Int) (σ : z_S) : Option (Int × z_S) := if x2 = 120 then zMod_escape_b213 N x2 1 σ else zMod_escape_b217 N x2 1 σ
theorem zMod_escape_b204_r (N : Nat) (x2 : Int) (hx2 : zin x2) (σ : z_S) (hσ : zR σ) : zrel (zMod_escape_b204 N x2 σ) (Mod_escape_b204 N (zI x2) (zo σ)) := by
  unfold zMod_escape_b204 Mod_escape_b204
  refine zr_ite (zI_eq rfl (zl_120) hx2 (by decide)) ?_ ?_
  · exact zr_of (zMod_escape_b213_r N _ hx2 _ (by decide) _ hσ) (congr (congr (congrArg (Mod_escape_b213 N) rfl) (zl_1)) rfl)
  · exact zr_of (zMod_escape_b217_r N _ hx2 _ (by decide) _ hσ) (congr (congr (congrArg (Mod_escape_b217 N) rfl) (zl_1)) rfl)
def zMod_escape_b470 (N : Nat) (σ : z_S) : Option (Int × z_S) := some (0, σ)
theorem zMod_escape_b470_r (N : Nat) (σ : z_S) (hσ : zR σ) : zrel (zMod_escape_b470 N σ) (Mod_escape_b470 N (zo σ)) := by
  unfold zMod_escape_b470 Mod_escape_b470
  exact zr_some (zl_0) (by decide) rfl hσ
def zMod_escape_b460 (N : Nat) (σ : z_S) : Option (Int × z_S) := if zin ((σ.1 11) - 1) then (zMod_fail N ((σ.1 11) - 1) σ).bind fun q467 => zMod_escape_b470 N q467.2 else none
theorem zMod_escape_b460_r (N : Nat) (σ : z_S) (hσ : zR σ) : zrel (zMod_escape_b460 N σ) (Mod_escape_b460 N (zo σ)) := by
  unfold zMod_escape_b460 Mod_escape_b460
  refine zr_g (fun g1 => ?_)
  refine zr_bind (zr_of (zMod_fail_r N _ g1 _ hσ) (congr (congrArg (Mod_fail N) (zI_sub (zo_fld rfl 11) (zl_1))) rfl)) (fun r467 s467σ hr467 hs467 => ?_)
  dsimp only
  exact zr_of (zMod_escape_b470_r N  _ hs467) (congrArg (Mod_escape_b470 N) rfl)
def zMod_escape_b453 (N : Nat) (x2 : Int) (σ : z_S) : Option (Int × z_S) := if x2 ≤ 255 then zMod_escape_b470 N σ else zMod_escape_b460 N σ
theorem zMod_escape_b453_r (N : Nat) (x2 : Int) (hx2 : zin x2) (σ : z_S) (hσ : zR σ) : zrel (zMod_escape_b453 N x2 σ) (Mod_escape_b453 N (zI x2) (zo σ)) := by
  unfold zMod_escape_b453 Mod_escape_b453
  refine zr_ite (zI_le rfl (zl_255) hx2 (by decide)) ?_ ?_
  · exact zr_of (zMod_escape_b470_r N  _ hσ) (congrArg (Mod_escape_b470 N) rfl)
  · exact zr_of (zMod_escape_b460_r N  _ hσ) (congrArg (Mod_escape_b460 N) rfl)
def zMod_escape_b446 (N : Nat) (x2 : Int) (σ : z_S) : Option (Int × z_S) := (zMod_isNamed N x2 σ).bind fun q447 => if q447.1 = 0 then zMod_escape_b453 N x2 q447.2 else zMod_escape_b460 N q447.2
theorem zMod_escape_b446_r (N : Nat) (x2 : Int) (hx2 : zin x2) (σ : z_S) (hσ : zR σ) : zrel (zMod_escape_b446 N x2 σ) (Mod_escape_b446 N (zI x2) (zo σ)) := by
  unfold zMod_escape_b446 Mod_escape_b446
  refine zr_bind (zr_of (zMod_isNamed_r N _ hx2 _ hσ) (congr (congrArg (Mod_isNamed N) rfl) rfl)) (fun r447 s447σ hr447 hs447 => ?_)
  dsimp only
  refine zr_ite (zI_eq rfl (zl_0) hr447 (by decide)) ?_ ?_
  · exact zr_of (zMod_escape_b453_r N _ hx2 _ hs447) (congr (congrArg (Mod_escape_b453 N) rfl) rfl)
  · exact zr_of (zMod_escape_b460_r N  _ hs447) (congrArg (Mod_escape_b460 N) rfl)
def zMod_escape_b442 (N : Nat) (x2 : Int) (x3 : Int) (σ : z_S) : Option (Int × z_S) := if x3 = 0 then zMod_escape_b446 N x2 σ else zMod_escape_b470 N σ
theorem zMod_escape_b442_r (N : Nat) (x2 : Int) (hx2 : zin x2) (x3 : Int) (hx3 : zin x3) (σ : z_S) (hσ : zR σ) : zrel (zMod_escape_b442 N x2 x3 σ) (Mod_escape_b442 N (zI x2) (zI x3) (zo σ)) := by
  unfold zMod_escape_b442 Mod_escape_b442
  refine zr_ite (zI_eq rfl (zl_0) hx3 (by decide)) ?_ ?_
  · exact zr_of (zMod_escape_b446_r N _ hx2 _ hσ) (congr (congrArg (Mod_escape_b446 N) rfl) rfl)
  · exact zr_of (zMod_escape_b470_r N  _ hσ) (congrArg (Mod_escape_b470 N) rfl)
def zMod_escape_b433 (N : Nat) (σ : z_S) : Option (Int × z_S) := zMod_escape_b470 N (zF σ 13 8)
theorem zMod_escape_b433_r (N : Nat) (σ : z_S) (hσ : zR σ) : zrel (zMod_escape_b433 N σ) (Mod_escape_b433 N (zo σ)) := by
  unfold zMod_escape_b433 Mod_escape_b433
  exact zr_of (zMod_escape_b470_r N  _ (zR_F (k := 13) hσ (by decide))) (congrArg (Mod_escape_b470 N) (zo_F (k := 13) rfl (zl_8)))
def zMod_escape_b427 (N : Nat) (x2 : Int) (x3 : Int) (σ : z_S) : Option (Int × z_S) := if x2 = 98 then zMod_escape_b433 N σ else zMod_escape_b442 N x2 x3 σ
theorem zMod_escape_b427_r (N : Nat) (x2 : Int) (hx2 : zin x2) (x3 : Int) (hx3 : zin x3) (σ : z_S) (hσ : zR σ) : zrel (zMod_escape_b427 N x2 x3 σ) (Mod_escape_b427 N (zI x2) (zI x3) (zo σ)) := by
  unfold zMod_escape_b427 Mod_escape_b427
  refine zr_ite (zI_eq rfl (zl_98) hx2 (by decide)) ?_ ?_
  · exact zr_of (zMod_escape_b433_r N  _ hσ) (congrArg (Mod_escape_b433 N) rfl)
  · exact zr_of (zMod_escape_b442_r N _ hx2 _ hx3 _ hσ) (congr (congr (congrArg (Mod_escape_b442 N) rfl) rfl) rfl)
def zMod_escape_b420 (N : Nat) (x1 : Int) (x2 : Int) (x3 : Int) (s1 : Int) (σ : z_S) : Option (Int × z_S) := if x1 = 0 then zMod_escape_b442 N x2 x3 (zF σ 13 s1) else zMod_escape_b427 N x2 x3 (zF σ 13 s1)
theorem zMod_escape_b420_r (N : Nat) (x1 : Int) (hx1 : zin x1) (x2 : Int) (hx2 : zin x2) (x3 : Int) (hx3 : zin x3) (s1 : Int) (hs1 : zin s1) (σ : z_S) (hσ : zR σ) : zrel (zMod_escape_b420 N x1 x2 x3 s1 σ) (Mod_escape_b420 N (zI x1) (zI x2) (zI x3) (zI s1) (zo σ)) := by
  unfold zMod_escape_b420 Mod_escape_b420
  refine zr_ite (zI_eq rfl (zl_0) hx1 (by decide)) ?_ ?_
  · exact zr_of (zMod_escape_b442_r N _ hx2 _ hx3 _ (zR_F (k := 13) hσ hs1)) (congr (congr (congrArg (Mod_escape_b442 N) rfl) rfl) (zo_F (k := 13) rfl rfl))
  · exact zr_of (zMod_escape_b427_r N _ hx2 _ hx3 _ (zR_F (k := 13) hσ hs1)) (congr (congr (congrArg (Mod_escape_b427 N) rfl) rfl) (zo_F (k := 13) rfl rfl))
def zMod_escape_b419 (N : Nat) (x1 : Int) (x2 : Int) (x3 : Int) (σ : z_S) : Option (Int × z_S) := zMod_escape_b420 N x1 x2 x3 x2 σ
theorem zMod_escape_b419_r (N : Nat) (x1 : Int) (hx1 : zin x1) (x2 : Int) (hx2 : zin x2) (x3 : Int) (hx3 : zin x3) (σ : z_S) (hσ : zR σ) : zrel (zMod_escape_b419 N x1 x2 x3 σ) (Mod_escape_b419 N (zI x1) (zI x2) (zI x3) (zo σ)) := by
  unfold zMod_escape_b419 Mod_escape_b419
  exact zr_of (zMod_escape_b420_r N _ hx1 _ hx2 _ hx3 _ hx2 _ hσ) (congr (congr (congr (congr (congrArg (Mod_escape_b420 N) rfl) rfl) rfl) rfl) rfl)
def zMod_escape_b414 (N : Nat) (x1 : Int) (x2 : Int) (x3 : Int) (σ : z_S) : Option (Int × z_S) := zMod_escape_b420 N x1 x2 x3 13 σ
theorem zMod_escape_b414_r (N : Nat) (x1 : Int) (hx1 : zin x1) (x2 : Int) (hx2 : zin x2) (x3 : Int) (hx3 : zin x3) (σ : z_S) (hσ : zR σ) : zrel (zMod_escape_b414 N x1 x2 x3 σ) (Mod_escape_b414 N (zI x1) (zI x2) (zI x3) (zo σ)) := by
  unfold zMod_escape_b414 Mod_escape_b414
  exact zr_of (zMod_escape_b420_r N _ hx1 _ hx2 _ hx3 _ (by decide) _ hσ) (congr (congr (congr (congr (congrArg (Mod_escape_b420 N) rfl) rfl) rfl) (zl_13)) rfl)
def zMod_escape_b408 (N : Nat) (x1 : Int) (x2 : Int) (x3 : Int) (σ : z_S) : Option (Int × z_S) := if x2 = 114 then zMod_escape_b414 N x1 x2 x3 σ else zMod_escape_b419 N x1 x2 x3 σ
theorem zMod_escape_b408_r (N : Nat) (x1 : Int) (hx1 : zin x1) (x2 : Int) (hx2 : zin x2) (x3 : Int) (hx3 : zin x3) (σ : z_S) (hσ : zR σ) : zrel (zMod_escape_b408 N x1 x2 x3 σ) (Mod_escape_b408 N (zI x1) (zI x2) (zI x3) (zo σ)) := by
  unfold zMod_escape_b408 Mod_escape_b408
  refine zr_ite (zI_eq rfl (zl_114) hx2 (by decide)) ?_ ?_
  · exact zr_of (zMod_escape_b414_r N _ hx1 _ hx2 _ hx3 _ hσ) (congr (congr (congr (congrArg (Mod_escape_b414 N) rfl) rfl) rfl) rfl)
  · exact zr_of (zMod_escape_b419_r N _ hx1 _ hx2 _ hx3 _ hσ) (congr (congr (congr (congrArg (Mod_escape_b419 N) rfl) rfl) rfl) rfl)
def zMod_escape_b403 (N : Nat) (x1 : Int) (x2 : Int) (x3 : Int) (σ : z_S) : Option (Int × z_S) := zMod_escape_b420 N x1 x2 x3 12 σ
theorem zMod_escape_b403_r (N : Nat) (x1 : Int) (hx1 : zin x1) (x2 : Int) (hx2 : zin x2) (x3 : Int) (hx3 : zin x3) (σ : z_S) (hσ : zR σ) : zrel (zMod_escape_b403 N x1 x2 x3 σ) (Mod_escape_b403 N (zI x1) (zI x2) (zI x3) (zo σ)) := by
  unfold zMod_escape_b403 Mod_escape_b403
  exact zr_of (zMod_escape_b420_r N _ hx1 _ hx2 _ hx3 _ (by decide) _ hσ) (congr (congr (congr (congr (congrArg (Mod_escape_b420 N) rfl) rfl) rfl) (zl_12)) rfl)
def zMod_escape_b397 (N : Nat) (x1 : Int) (x2 : Int) (x3 : Int) (σ : z_S) : Option (Int × z_S) := if x2 = 102 then zMod_escape_b403 N x1 x2 x3 σ else zMod_escape_b408 N x1 x2 x3 σ
theorem zMod_escape_b397_r (N : Nat) (x1 : Int) (hx1 : zin x1) (x2 : Int) (hx2 : zin x2) (x3 : Int) (hx3 : zin x3) (σ : z_S) (hσ : zR σ) : zrel (zMod_escape_b397 N x1 x2 x3 σ) (Mod_escape_b397 N (zI x1) (zI x2) (zI x3) (zo σ)) := by
  unfold zMod_escape_b397 Mod_escape_b397
  refine zr_ite (zI_eq rfl (zl_102) hx2 (by decide)) ?_ ?_
  · exact zr_of (zMod_escape_b403_r N _ hx1 _ hx2 _ hx3 _ hσ) (congr (congr (congr (congrArg (Mod_escape_b403 N) rfl) rfl) rfl) rfl)
  · exact zr_of (zMod_escape_b408_r N _ hx1 _ hx2 _ hx3 _ hσ) (congr (congr (congr (congrArg (Mod_escape_b408 N) rfl) rfl) rfl) rfl)
def zMod_escape_b392 (N : Nat) (x1 : Int) (x2 : Int) (x3 : Int) (σ : z_S) : Option (Int × z_S) := zMod_escape_b420 N x1 x2 x3 11 σ
theorem zMod_escape_b392_r (N : Nat) (x1 : Int) (hx1 : zin x1) (x2 : Int) (hx2 : zin x2) (x3 : Int) (hx3 : zin x3) (σ : z_S) (hσ : zR σ) : zrel (zMod_escape_b392 N x1 x2 x3 σ) (Mod_escape_b392 N (zI x1) (zI x2) (zI x3) (zo σ)) := by
  unfold zMod_escape_b392 Mod_escape_b392
  exact zr_of (zMod_escape_b420_r N _ hx1 _ hx2 _ hx3 _ (by decide) _ hσ) (congr (congr (congr (congr (congrArg (Mod_escape_b420 N) rfl) rfl) rfl) (zl_11)) rfl)
def zMod_escape_b386 (N : Nat) (x1 : Int) (x2 : Int) (x3 : Int) (σ : z_S) : Option (Int × z_S) := if x2 = 118 then zMod_escape_b392 N x1 x2 x3 σ else zMod_escape_b397 N x1 x2 x3 σ
theorem zMod_escape_b386_r (N : Nat) (x1 : Int) (hx1 : zin x1) (x2 : Int) (hx2 : zin x2) (x3 : Int) (hx3 : zin x3) (σ : z_S) (hσ : zR σ) : zrel (zMod_escape_b386 N x1 x2 x3 σ) (Mod_escape_b386 N (zI x1) (zI x2) (zI x3) (zo σ)) := by
  unfold zMod_escape_b386 Mod_escape_b386
  refine zr_ite (zI_eq rfl (zl_118) hx2 (by decide)) ?_ ?_
  · exact zr_of (zMod_escape_b392_r N _ hx1 _ hx2 _ hx3 _ hσ) (congr (congr (congr (congrArg (Mod_escape_b392 N) rfl) rfl) rfl) rfl)
  · exact zr_of (zMod_escape_b397_r N _ hx1 _ hx2 _ hx3 _ hσ) (congr (congr (congr (congrArg (Mod_escape_b397 N) rfl) rfl) rfl) rfl)
def zMod_escape_b381 (N : Nat) (x1 : Int) (x2 : Int) (x3 : Int) (σ : z_S) : Option (Int × z_S) := zMod_escape_b420 N x1 x2 x3 10 σ
theorem zMod_escape_b381_r (N : Nat) (x1 : Int) (hx1 : zin x1) (x2 : Int) (hx2 : zin x2) (x3 : Int) (hx3 : zin x3) (σ : z_S) (hσ : zR σ) : zrel (zMod_escape_b381 N x1 x2 x3 σ) (Mod_escape_b381 N (zI x1) (zI x2) (zI x3) (zo σ)) := by
  unfold zMod_escape_b381 Mod_escape_b381
  exact zr_of (zMod_escape_b420_r N _ hx1 _ hx2 _ hx3 _ (by decide) _ hσ) (congr (congr (congr (congr (congrArg (Mod_escape_b420 N) rfl) rfl) rfl) (zl_10)) rfl)
def zMod_escape_b375 (N : Nat) (x1 : Int) (x2 : Int) (x3 : Int) (σ : z_S) : Option (Int × z_S) := if x2 = 110 then zMod_escape_b381 N x1 x2 x3 σ else zMod_escape_b386 N x1 x2 x3 σ
theorem zMod_escape_b375_r (N : Nat) (x1 : Int) (hx1 : zin x1) (x2 : Int) (hx2 : zin x2) (x3 : Int) (hx3 : zin x3) (σ : z_S) (hσ : zR σ) : zrel (zMod_escape_b375 N x1 x2 x3 σ) (Mod_escape_b375 N (zI x1) (zI x2) (zI x3) (zo σ)) := by
  unfold zMod_escape_b375 Mod_escape_b375
  refine zr_ite (zI_eq rfl (zl_110) hx2 (by decide)) ?_ ?_
  · exact zr_of (zMod_escape_b381_r N _ hx1 _ hx2 _ hx3 _ hσ) (congr (congr (congr (congrArg (Mod_escape_b381 N) rfl) rfl) rfl) rfl)
  · exact zr_of (zMod_escape_b386_r N _ hx1 _ hx2 _ hx3 _ hσ) (congr (congr (congr (congrArg (Mod_escape_b386 N) rfl) rfl) rfl) rfl)
def zMod_escape_b370 (N : Nat) (x1 : Int) (x2 : Int) (x3 : Int) (σ : z_S) : Option (Int × z_S) := zMod_escape_b420 N x1 x2 x3 9 σ
theorem zMod_escape_b370_r (N : Nat) (x1 : Int) (hx1 : zin x1) (x2 : Int) (hx2 : zin x2) (x3 : Int) (hx3 : zin x3) (σ : z_S) (hσ : zR σ) : zrel (zMod_escape_b370 N x1 x2 x3 σ) (Mod_escape_b370 N (zI x1) (zI x2) (zI x3) (zo σ)) := by
  unfold zMod_escape_b370 Mod_escape_b370
  exact zr_of (zMod_escape_b420_r N _ hx1 _ hx2 _ hx3 _ (by decide) _ hσ) (congr (congr (congr (congr (congrArg (Mod_escape_b420 N) rfl) rfl) rfl) (zl_9)) rfl)
def zMod_escape_b362 (N : Nat) (x1 : Int) (x2 : Int) (s0 : Int) (σ : z_S) : Option (Int × z_S) := if x2 = 116 then zMod_escape_b370 N x1 x2 s0 σ else zMod_escape_b375 N x1 x2 s0 σ
theorem zMod_escape_b362_r (N : Nat) (x1 : Int) (hx1 : zin x1) (x2 : Int) (hx2 : zin x2) (s0 : Int) (hs0 : zin s0) (σ : z_S) (hσ : zR σ) : zrel (zMod_escape_b362 N x1 x2 s0 σ) (Mod_escape_b362 N (zI x1) (zI x2) (zI s0) (zo σ)) := by
  unfold zMod_escape_b362 Mod_escape_b362
  refine zr_ite (zI_eq rfl (zl_116) hx2 (by decide)) ?_ ?_
  · exact zr_of (zMod_escape_b370_r N _ hx1 _ hx2 _ hs0 _ hσ) (congr (congr (congr (congrArg (Mod_escape_b370 N) rfl) rfl) rfl) rfl)
  · exact zr_of (zMod_escape_b375_r N _ hx1 _ hx2 _ hs0 _ hσ) (congr (congr (congr (congrArg (Mod_escape_b375 N) rfl) rfl) rfl) rfl)
def zMod_escape_b357 (N : Nat) (x1 : Int) (x2 : Int) (σ : z_S) : Option (Int × z_S) := zMod_escape_b362 N x1 x2 1 σ
theorem zMod_escape_b357_r (N : Nat) (x1 : Int) (hx1 : zin x1) (x2 : Int) (hx2 : zin x2) (σ : z_S) (hσ : zR σ) : zrel (zMod_escape_b357 N x1 x2 σ) (Mod_escape_b357 N (zI x1) (zI x2) (zo σ)) := by
  unfold zMod_escape_b357 Mod_escape_b357
  exact zr_of (zMod_escape_b362_r N _ hx1 _ hx2 _ (by decide) _ hσ) (congr (congr (congr (congrArg (Mod_escape_b362 N) rfl) rfl) (zl_1)) rfl)
def zMod_escape_b361 (N : Nat) (x1 : Int) (x2 : Int) (σ : z_S) : Option (Int × z_S) := zMod_escape_b362 N x1 x2 0 σ
theorem zMod_escape_b361_r (N : Nat) (x1 : Int) (hx1 : zin x1) (x2 : Int) (hx2 : zin x2) (σ : z_S) (hσ : zR σ) : zrel (zMod_escape_b361 N x1 x2 σ) (Mod_escape_b361 N (zI x1) (zI x2) (zo σ)) := by
  unfold zMod_escape_b361 Mod_escape_b361
  exact zr_of (zMod_escape_b362_r N _ hx1 _ hx2 _ (by decide) _ hσ) (congr (congr (congr (congrArg (Mod_escape_b362 N) rfl) rfl) (zl_0)) rfl)
def zMod_escape_b351 (N : Nat) (x1 : Int) (x2 : Int) (σ : z_S) : Option (Int × z_S) := if x2 = 114 then zMod_escape_b357 N x1 x2 σ else zMod_escape_b361 N x1 x2 σ
theorem zMod_escape_b351_r (N : Nat) (x1 : Int) (hx1 : zin x1) (x2 : Int) (hx2 : zin x2) (σ : z_S) (hσ : zR σ) : zrel (zMod_escape_b351 N x1 x2 σ) (Mod_escape_b351 N (zI x1) (zI x2) (zo σ)) := by
  unfold zMod_escape_b351 Mod_escape_b351
  refine zr_ite (zI_eq rfl (zl_114) hx2 (by decide)) ?_ ?_
  · exact zr_of (zMod_escape_b357_r N _ hx1 _ hx2 _ hσ) (congr (congr (congrArg (Mod_escape_b357 N) rfl) rfl) rfl)
  · exact zr_of (zMod_escape_b361_r N _ hx1 _ hx2 _ hσ) (congr (congr (congrArg (Mod_escape_b361 N) rfl) rfl) rfl)
def zMod_escape_b345 (N : Nat) (x1 : Int) (x2 : Int) (σ : z_S) : Option (Int × z_S) := if x2 = 102 then zMod_escape_b357 N x1 x2 σ else zMod_escape_b351 N x1 x2 σ
theorem zMod_escape_b345_r (N : Nat) (x1 : Int) (hx1 : zin x1) (x2 : Int) (hx2 : zin x2) (σ : z_S) (hσ : zR σ) : zrel (zMod_escape_b345 N x1 x2 σ) (Mod_escape_b345 N (zI x1) (zI x2) (zo σ)) := by
  unfold zMod_escape_b345 Mod_escape_b345
  refine zr_ite (zI_eq rfl (zl_102) hx2 (by decide)) ?_ ?_
  · exact zr_of (zMod_escape_b357_r N _ hx1 _ hx2 _ hσ) (congr (congr (congrArg (Mod_escape_b357 N) rfl) rfl) rfl)
  · exact zr_of (zMod_escape_b351_r N _ hx1 _ hx2 _ hσ) (congr (congr (congrArg (Mod_escape_b351 N) rfl) rfl) rfl)
def zMod_escape_b339 (N : Nat) (x1 : Int) (x2 : Int) (σ : z_S) : Option (Int × z_S) := if x2 = 118 then zMod_escape_b357 N x1 x2 σ else zMod_escape_b345 N x1 x2 σ
theorem zMod_escape_b339_r (N : Nat) (x1 : Int) (hx1 : zin x1) (x2 : Int) (hx2 : zin x2) (σ : z_S) (hσ : zR σ) : zrel (zMod_escape_b339 N x1 x2 σ) (Mod_escape_b339 N (zI x1) (zI x2) (zo σ)) := by
  unfold zMod_escape_b339 Mod_escape_b339
  refine zr_ite (zI_eq rfl (zl_118) hx2 (by decide)) ?_ ?_
  · exact zr_of (zMod_escape_b357_r N _ hx1 _ hx2 _ hσ) (congr (congr (congrArg (Mod_escape_b357 N) rfl) rfl) rfl)
  · exact zr_of (zMod_escape_b345_r N _ hx1 _ hx2 _ hσ) (congr (congr (congrArg (Mod_escape_b345 N) rfl) rfl) rfl)
def zMod_escape_b333 (N : Nat) (x1 : Int) (x2 : Int) (σ : z_S) : Option (Int × z_S) := if x2 = 110 then zMod_escape_b357 N x1 x2 σ else zMod_escape_b339 N x1 x2 σ
theorem zMod_escape_b333_r (N : Nat) (x1 : Int) (hx1 : zin x1) (x2 : Int) (hx2 : zin x2) (σ : z_S) (hσ : zR σ) : zrel (zMod_escape_b333 N x1 x2 σ) (Mod_escape_b333 N (zI x1) (zI x2) (zo σ)) := by
  unfold zMod_escape_b333 Mod_escape_b333
  refine zr_ite (zI_eq rfl (zl_110) hx2 (by decide)) ?_ ?_
  · exact zr_of (zMod_escape_b357_r N _ hx1 _ hx2 _ hσ) (congr (congr (congrArg (Mod_escape_b357 N) rfl) rfl) rfl)
  · exact zr_of (zMod_escape_b339_r N _ hx1 _ hx2 _ hσ) (congr (congr (congrArg (Mod_escape_b339 N) rfl) rfl) rfl)
def zMod_escape_b317 (N : Nat) (x1 : Int) (x2 : Int) (σ : z_S) : Option (Int × z_S) := if x2 = 116 then if zin ((σ.1 11) + 1) then zMod_escape_b357 N x1 x2 (zF σ 11 ((σ.1 11) + 1)) else none else if zin ((σ.1 11) + 1) then zMod_escape_b333 N x1 x2 (zF σ 11 ((σ.1 11) + 1)) else none
theorem zMod_escape_b317_r (N : Nat) (x1 : Int) (hx1 : zin x1) (x2 : Int) (hx2 : zin x2) (σ : z_S) (hσ : zR σ) : zrel (zMod_escape_b317 N x1 x2 σ) (Mod_escape_b317 N (zI x1) (zI x2) (zo σ)) := by
  unfold zMod_escape_b317 Mod_escape_b317
  refine zr_ite (zI_eq rfl (zl_116) hx2 (by decide)) ?_ ?_
  · refine zr_g (fun g1 => ?_)
    exact zr_of (zMod_escape_b357_r N _ hx1 _ hx2 _ (zR_F (k := 11) hσ g1)) (congr (congr (congrArg (Mod_escape_b357 N) rfl) rfl) (zo_F (k := 11) rfl (zI_add (zo_fld rfl 11) (zl_1))))
  · refine zr_g (fun g2 => ?_)
    exact zr_of (zMod_escape_b333_r N _ hx1 _ hx2 _ (zR_F (k := 11) hσ g2)) (congr (congr (congrArg (Mod_escape_b333 N) rfl) rfl) (zo_F (k := 11) rfl (zI_add (zo_fld rfl 11) (zl_1))))
def zMod_escape_b293 (N : Nat) (σ : z_S) : Option (Int × z_S) := (zMod_see N 1 σ).bind fun q296 => if zin ((q296.2.1 11) + 2) then some (0, (zF (zF q296.2 13 (zrem q296.1 32)) 11 ((q296.2.1 11) + 2))) else none
theorem zMod_escape_b293_r (N : Nat) (σ : z_S) (hσ : zR σ) : zrel (zMod_escape_b293 N σ) (Mod_escape_b293 N (zo σ)) := by
  unfold zMod_escape_b293 Mod_escape_b293
  refine zr_bind (zr_of (zMod_see_r N _ (by decide) _ hσ) (congr (congrArg (Mod_see N) (zl_1)) rfl)) (fun r296 s296σ hr296 hs296 => ?_)
  dsimp only
  refine zr_g (fun g1 => ?_)
  exact zr_some (zl_0) (by decide) (zo_F (k := 11) (zo_F (k := 13) rfl (zI_rem rfl (zl_32))) (zI_add (zo_fld rfl 11) (zl_2))) (zR_F (k := 11) (zR_F (k := 13) hs296 (zin_toInt _)) g1)
def zMod_escape_b290 (N : Nat) (s1 : Int) (σ : z_S) : Option (Int × z_S) := (zMod_fail N s1 σ).bind fun q290 => zMod_escape_b293 N q290.2
theorem zMod_escape_b290_r (N : Nat) (s1 : Int) (hs1 : zin s1) (σ : z_S) (hσ : zR σ) : zrel (zMod_escape_b290 N s1 σ) (Mod_escape_b290 N (zI s1) (zo σ)) := by
  unfold zMod_escape_b290 Mod_escape_b290
  refine zr_bind (zr_of (zMod_fail_r N _ hs1 _ hσ) (congr (congrArg (Mod_fail N) rfl) rfl)) (fun r290 s290σ hr290 hs290 => ?_)
  dsimp only
  exact zr_of (zMod_escape_b293_r N  _ hs290) (congrArg (Mod_escape_b293 N) rfl)
def zMod_escape_b286 (N : Nat) (σ : z_S) : Option (Int × z_S) := zMod_escape_b290 N (σ.1 2) σ
theorem zMod_escape_b286_r (N : Nat) (σ : z_S) (hσ : zR σ) : zrel (zMod_escape_b286 N σ) (Mod_escape_b286 N (zo σ)) := by
  unfold zMod_escape_b286 Mod_escape_b286
  exact zr_of (zMod_escape_b290_r N _ (hσ.1 2) _ hσ) (congr (congrArg (Mod_escape_b290 N) (zo_fld rfl 2)) rfl)
def zMod_escape_b277 (N : Nat) (σ : z_S) : Option (Int × z_S) := if zin ((σ.1 11) + 1) then zMod_escape_b290 N ((σ.1 11) + 1) σ else none
theorem zMod_escape_b277_r (N : Nat) (σ : z_S) (hσ : zR σ) : zrel (zMod_escape_b277 N σ) (Mod_escape_b277 N (zo σ)) := by
  unfold zMod_escape_b277 Mod_escape_b277
  refine zr_g (fun g1 => ?_)
  exact zr_of (zMod_escape_b290_r N _ g1 _ hσ) (congr (congrArg (Mod_escape_b290 N) (zI_add (zo_fld rfl 11) (zl_1))) rfl)
def zMod_escape_b263 (N : Nat) (σ : z_S) : Option (Int × z_S) := if zin ((σ.1 11) + 1) then if (σ.1 2) ≤ ((σ.1 11) + 1) then zMod_escape_b286 N σ else zMod_escape_b277 N σ else none
theorem zMod_escape_b263_r (N : Nat) (σ : z_S) (hσ : zR σ) : zrel (zMod_escape_b263 N σ) (Mod_escape_b263 N (zo σ)) := by
  unfold zMod_escape_b263 Mod_escape_b263
  refine zr_g (fun g1 => ?_)
  refine zr_ite (zI_le (zo_fld rfl 2) (zI_add (zo_fld rfl 11) (zl_1)) (hσ.1 2) g1) ?_ ?_
  · exact zr_of (zMod_escape_b286_r N  _ hσ) (congrArg (Mod_escape_b286 N) rfl)
  · exact zr_of (zMod_escape_b277_r N  _ hσ) (congrArg (Mod_escape_b277 N) rfl)
def zMod_escape_b252 (N : Nat) (σ : z_S) : Option (Int × z_S) := (zMod_see N 1 σ).bind fun q254 => (zMod_isLetter N q254.1 q254.2).bind fun q257 => if q257.1 = 0 then zMod_escape_b263 N q257.2 else zMod_escape_b293 N q257.2
theorem zMod_escape_b252_r (N : Nat) (σ : z_S) (hσ : zR σ) : zrel (zMod_escape_b252 N σ) (Mod_escape_b252 N (zo σ)) := by
  unfold zMod_escape_b252 Mod_escape_b252
  refine zr_bind (zr_of (zMod_see_r N _ (by decide) _ hσ) (congr (congrArg (Mod_see N) (zl_1)) rfl)) (fun r254 s254σ hr254 hs254 => ?_)
  dsimp only
  refine zr_bind (zr_of (zMod_isLetter_r N _ hr254 _ hs254) (congr (congrArg (Mod_isLetter N) rfl) rfl)) (fun r257 s257σ hr257 hs257 => ?_)
  dsimp only
  refine zr_ite (zI_eq rfl (zl_0) hr257 (by decide)) ?_ ?_
  · exact zr_of (zMod_escape_b263_r N  _ hs257) (congrArg (Mod_escape_b263 N) rfl)
  · exact zr_of (zMod_escape_b293_r N  _ hs257) (congrArg (Mod_escape_b293 N) rfl)
def zMod_escape_b246 (N : Nat) (x1 : Int) (x2 : Int) (σ : z_S) : Option (Int × z_S) := if x2 = 99 then zMod_escape_b252 N σ else zMod_escape_b317 N x1 x2 σ
theorem zMod_escape_b246_r (N : Nat) (x1 : Int) (hx1 : zin x1) (x2 : Int) (hx2 : zin x2) (σ : z_S) (hσ : zR σ) : zrel (zMod_escape_b246 N x1 x2 σ) (Mod_escape_b246 N (zI x1) (zI x2) (zo σ)) := by
  unfold zMod_escape_b246 Mod_escape_b246
  refine zr_ite (zI_eq rfl (zl_99) hx2 (by decide)) ?_ ?_
  · exact zr_of (zMod_escape_b252_r N  _ hσ) (congrArg (Mod_escape_b252 N) rfl)
  · exact zr_of (zMod_escape_b317_r N _ hx1 _ hx2 _ hσ) (congr (congr (congrArg (Mod_escape_b317 N) rfl) rfl) rfl)
def zMod_escape_b198 (N : Nat) (x1 : Int) (x2 : Int) (σ : z_S) : Option (Int × z_S) := if x2 = 117 then zMod_escape_b204 N x2 σ else zMod_escape_b246 N x1 x2 σ
theorem zMod_escape_b198_r (N : Nat) (x1 : Int) (hx1 : zin x1) (x2 : Int) (hx2 : zin x2) (σ : z_S) (hσ : zR σ) : zrel (zMod_escape_b198 N x1 x2 σ) (Mod_escape_b198 N (zI x1) (zI x2) (zo σ)) := by
  unfold zMod_escape_b198 Mod_escape_b198
  refine zr_ite (zI_eq rfl (zl_117) hx2 (by decide)) ?_ ?_
  · exact zr_of (zMod_escape_b204_r N _ hx2 _ hσ) (congr (congrArg (Mod_escape_b204 N) rfl) rfl)
  · exact zr_of (zMod_escape_b246_r N _ hx1 _ hx2 _ hσ) (congr (congr (congrArg (Mod_escape_b246 N) rfl) rfl) rfl)
def zMod_escape_b192 (N : Nat) (x1 : Int) (x2 : Int) (σ : z_S) : Option (Int × z_S) := if x2 = 120 then zMod_escape_b204 N x2 σ else zMod_escape_b198 N x1 x2 σ
theorem zMod_escape_b192_r (N : Nat) (x1 : Int) (hx1 : zin x1) (x2 : Int) (hx2 : zin x2) (σ : z_S) (hσ : zR σ) : zrel (zMod_escape_b192 N x1 x2 σ) (Mod_escape_b192 N (zI x1) (zI x2) (zo σ)) := by
  unfold zMod_escape_b192 Mod_escape_b192
  refine zr_ite (zI_eq rfl (zl_120) hx2 (by decide)) ?_ ?_
  · exact zr_of (zMod_escape_b204_r N _ hx2 _ hσ) (congr (congrArg (Mod_escape_b204 N) rfl) rfl)
  · exact zr_of (zMod_escape_b198_r N _ hx1 _ hx2 _ hσ) (congr (congr (congrArg (Mod_escape_b198 N) rfl) rfl) rfl)
def zMod_escape_b174 (N : Nat) (x1 : Int) (x2 : Int) (σ : z_S) : Option (Int × z_S) := if x2 = 87 then zMod_escape_b180 N σ else zMod_escape_b192 N x1 x2 σ
theorem zMod_escape_b174_r (N : Nat) (x1 : Int) (hx1 : zin x1) (x2 : Int) (hx2 : zin x2) (σ : z_S) (hσ : zR σ) : zrel (zMod_escape_b174 N x1 x2 σ) (Mod_escape_b174 N (zI x1) (zI x2) (zo σ)) := by
  unfold zMod_escape_b174 Mod_escape_b174
  refine zr_ite (zI_eq rfl (zl_87) hx2 (by decide)) ?_ ?_
  · exact zr_of (zMod_escape_b180_r N  _ hσ) (congrArg (Mod_escape_b180 N) rfl)
  · exact zr_of (zMod_escape_b192_r N _ hx1 _ hx2 _ hσ) (congr (congr (congrArg (Mod_escape_b192 N) rfl) rfl) rfl)
def zMod_escape_b168 (N : Nat) (x1 : Int) (x2 : Int) (σ : z_S) : Option (Int × z_S) := if x2 = 119 then zMod_escape_b180 N σ else zMod_escape_b174 N x1 x2 σ
theorem zMod_escape_b168_r (N : Nat) (x1 : Int) (hx1 : zin x1) (x2 : Int) (hx2 : zin x2) (σ : z_S) (hσ : zR σ) : zrel (zMod_escape_b168 N x1 x2 σ) (Mod_escape_b168 N (zI x1) (zI x2) (zo σ)) := by
  unfold zMod_escape_b168 Mod_escape_b168
  refine zr_ite (zI_eq rfl (zl_119) hx2 (by decide)) ?_ ?_
  · exact zr_of (zMod_escape_b180_r N  _ hσ) (congrArg (Mod_escape_b180 N) rfl)
  · exact zr_of (zMod_escape_b174_r N _ hx1 _ hx2 _ hσ) (congr (congr (congrArg (Mod_escape_b174 N) rfl) rfl) rfl)
def zMod_escape_b162 (N : Nat) (x1 : Int) (x2 : Int) (σ : z_S) : Option (Int × z_S) := if x2 = 83 then zMod_escape_b180 N σ else zMod_escape_b168 N x1 x2 σ
theorem zMod_escape_b162_r (N : Nat) (x1 : Int) (hx1 : zin x1) (x2 : Int) (hx2 : zin x2) (σ : z_S) (hσ : zR σ) : zrel (zMod_escape_b162 N x1 x2 σ) (Mod_escape_b162 N (zI x1) (zI x2) (zo σ)) := by
  unfold zMod_escape_b162 Mod_escape_b162
  refine zr_ite (zI_eq rfl (zl_83) hx2 (by decide)) ?_ ?_
  · exact zr_of (zMod_escape_b180_r N  _ hσ) (congrArg (Mod_escape_b180 N) rfl)
  · exact zr_of (zMod_escape_b168_r N _ hx1 _ hx2 _ hσ) (congr (congr (congrArg (Mod_escape_b168 N) rfl) rfl) rfl)
def zMod_escape_b156 (N : Nat) (x1 : Int) (x2 : Int) (σ : z_S) : Option (Int × z_S) := if x2 = 115 then zMod_escape_b180 N σ else zMod_escape_b162 N x1 x2 σ
theorem zMod_escape_b156_r (N : Nat) (x1 : Int) (hx1 : zin x1) (x2 : Int) (hx2 : zin x2) (σ : z_S) (hσ : zR σ) : zrel (zMod_escape_b156 N x1 x2 σ) (Mod_escape_b156 N (zI x1) (zI x2) (zo σ)) := by
  unfold zMod_escape_b156 Mod_escape_b156
  refine zr_ite (zI_eq rfl (zl_115) hx2 (by decide)) ?_ ?_
  · exact zr_of (zMod_escape_b180_r N  _ hσ) (congrArg (Mod_escape_b180 N) rfl)
  · exact zr_of (zMod_escape_b162_r N _ hx1 _ hx2 _ hσ) (congr (congr (congrArg (Mod_escape_b162 N) rfl) rfl) rfl)
def zMod_escape_b150 (N : Nat) (x1 : Int) (x2 : Int) (σ : z_S) : Option (Int × z_S) := if x2 = 68 then zMod_escape_b180 N σ else zMod_escape_b156 N x1 x2 σ
theorem zMod_escape_b150_r (N : Nat) (x1 : Int) (hx1 : zin x1) (x2 : Int) (hx2 : zin x2) (σ : z_S) (hσ : zR σ) : zrel (zMod_escape_b150 N x1 x2 σ) (Mod_escape_b150 N (zI x1) (zI x2) (zo σ)) := by
  unfold zMod_escape_b150 Mod_escape_b150
  refine zr_ite (zI_eq rfl (zl_68) hx2 (by decide)) ?_ ?_
  · exact zr_of (zMod_escape_b180_r N  _ hσ) (congrArg (Mod_escape_b180 N) rfl)
  · exact zr_of (zMod_escape_b156_r N _ hx1 _ hx2 _ hσ) (congr (congr (congrArg (Mod_escape_b156 N) rfl) rfl) rfl)
def zMod_escape_b144 (N : Nat) (x1 : Int) (x2 : Int) (σ : z_S) : Option (Int × z_S) := if x2 = 100 then zMod_escape_b180 N σ else zMod_escape_b150 N x1 x2 σ
theorem zMod_escape_b144_r (N : Nat) (x1 : Int) (hx1 : zin x1) (x2 : Int) (hx2 : zin x2) (σ : z_S) (hσ : zR σ) : zrel (zMod_escape_b144 N x1 x2 σ) (Mod_escape_b144 N (zI x1) (zI x2) (zo σ)) := by
  unfold zMod_escape_b144 Mod_escape_b144
  refine zr_ite (zI_eq rfl (zl_100) hx2 (by decide)) ?_ ?_
  · exact zr_of (zMod_escape_b180_r N  _ hσ) (congrArg (Mod_escape_b180 N) rfl)
  · exact zr_of (zMod_escape_b150_r N _ hx1 _ hx2 _ hσ) (congr (congr (congrArg (Mod_escape_b150 N) rfl) rfl) rfl)
def zMod_escape_b137 (N : Nat) (x3 : Int) (σ : z_S) : Option (Int × z_S) := some (2, (zF σ 13 x3))
theorem zMod_escape_b137_r (N : Nat) (x3 : Int) (hx3 : zin x3) (σ : z_S) (hσ : zR σ) : zrel (zMod_escape_b137 N x3 σ) (Mod_escape_b137 N (zI x3) (zo σ)) := by
  unfold zMod_escape_b137 Mod_escape_b137
  exact zr_some (zl_2) (by decide) (zo_F (k := 13) rfl rfl) (zR_F (k := 13) hσ hx3)
def zMod_escape_b123 (N : Nat) (k88 : Int → z_S → Option (Int × z_S)) (s0 : Int) (σ : z_S) : Option (Int × z_S) := if zin ((σ.1 11) + 1) then k88 s0 (zF σ 11 ((σ.1 11) + 1)) else none
theorem zMod_escape_b123_r (N : Nat) (k88 : Int → z_S → Option (Int × z_S)) (k88' : Int32 → g_S → Option (Int32 × g_S)) (hk88 : ∀ (y0 : Int) (_ : zin y0) (σ : z_S), zR σ → zrel (k88 y0 σ) (k88' (zI y0) (zo σ))) (s0 : Int) (hs0 : zin s0) (σ : z_S) (hσ : zR σ) : zrel (zMod_escape_b123 N k88 s0 σ) (Mod_escape_b123 N k88' (zI s0) (zo σ)) := by
  unfold zMod_escape_b123 Mod_escape_b123
  refine zr_g (fun g1 => ?_)
  exact zr_of (hk88 _ hs0 _ (zR_F (k := 11) hσ g1)) (congr (congrArg (k88') rfl) (zo_F (k := 11) rfl (zI_add (zo_fld rfl 11) (zl_1))))
def zMod_escape_b110 (N : Nat) (k88 : Int → z_S → Option (Int × z_S)) (x3 : Int) (σ : z_S) : Option (Int × z_S) := (zMod_see N 0 σ).bind fun q116 => if zin (10 * x3) then if zin ((10 * x3) + q116.1) then if zin (((10 * x3) + q116.1) - 48) then zMod_escape_b123 N k88 (((10 * x3) + q116.1) - 48) q116.2 else none else none else none
theorem zMod_escape_b110_r (N : Nat) (k88 : Int → z_S → Option (Int × z_S)) (k88' : Int32 → g_S → Option (Int32 × g_S)) (hk88 : ∀ (y0 : Int) (_ : zin y0) (σ : z_S), zR σ → zrel (k88 y0 σ) (k88' (zI y0) (zo σ))) (x3 : Int) (hx3 : zin x3) (σ : z_S) (hσ : zR σ) : zrel (zMod_escape_b110 N k88 x3 σ) (Mod_escape_b110 N k88' (zI x3) (zo σ)) := by
  unfold zMod_escape_b110 Mod_escape_b110
  refine zr_bind (zr_of (zMod_see_r N _ (by decide) _ hσ) (congr (congrArg (Mod_see N) (zl_0)) rfl)) (fun r116 s116σ hr116 hs116 => ?_)
  dsimp only
  refine zr_g (fun g1 => ?_)
  refine zr_g (fun g2 => ?_)
  refine zr_g (fun g3 => ?_)
  exact zr_of (zMod_escape_b123_r N k88 k88' hk88 _ g3 _ hs116) (congr (congrArg (Mod_escape_b123 N k88') (zI_sub (zI_add (zI_mul (zl_10) rfl) rfl) (zl_48))) rfl)
def zMod_escape_b106 (N : Nat) (k88 : Int → z_S → Option (Int × z_S)) (x3 : Int) (σ : z_S) : Option (Int × z_S) := zMod_escape_b123 N k88 x3 σ
theorem zMod_escape_b106_r (N : Nat) (k88 : Int → z_S → Option (Int × z_S)) (k88' : Int32 → g_S → Option (Int32 × g_S)) (hk88 : ∀ (y0 : Int) (_ : zin y0) (σ : z_S), zR σ → zrel (k88 y0 σ) (k88' (zI y0) (zo σ))) (x3 : Int) (hx3 : zin x3) (σ : z_S) (hσ : zR σ) : zrel (zMod_escape_b106 N k88 x3 σ) (Mod_escape_b106 N k88' (zI x3) (zo σ)) := by
  unfold zMod_escape_b106 Mod_escape_b106
  exact zr_of (zMod_escape_b123_r N k88 k88' hk88 _ hx3 _ hσ) (congr (congrArg (Mod_escape_b123 N k88') rfl) rfl)
def zMod_escape_b99 (N : Nat) (k88 : Int → z_S → Option (Int × z_S)) (x3 : Int) (σ : z_S) : Option (Int × z_S) := if x3 ≤ 1000 then zMod_escape_b110 N k88 x3 σ else zMod_escape_b106 N k88 x3 σ
theorem zMod_escape_b99_r (N : Nat) (k88 : Int → z_S → Option (Int × z_S)) (k88' : Int32 → g_S → Option (Int32 × g_S)) (hk88 : ∀ (y0 : Int) (_ : zin y0) (σ : z_S), zR σ → zrel (k88 y0 σ) (k88' (zI y0) (zo σ))) (x3 : Int) (hx3 : zin x3) (σ : z_S) (hσ : zR σ) : zrel (zMod_escape_b99 N k88 x3 σ) (Mod_escape_b99 N k88' (zI x3) (zo σ)) := by
  unfold zMod_escape_b99 Mod_escape_b99
  refine zr_ite (zI_le rfl (zl_1000) hx3 (by decide)) ?_ ?_
  · exact zr_of (zMod_escape_b110_r N k88 k88' hk88 _ hx3 _ hσ) (congr (congrArg (Mod_escape_b110 N k88') rfl) rfl)
  · exact zr_of (zMod_escape_b106_r N k88 k88' hk88 _ hx3 _ hσ) (congr (congrArg (Mod_escape_b106 N k88') rfl) rfl)
def zMod_escape_b88 (N : Nat) (k88 : Int → z_S → Option (Int × z_S)) (x3 : Int) (σ : z_S) : Option (Int × z_S) := (zMod_see N 0 σ).bind fun q90 => (zMod_isDigit N q90.1 q90.2).bind fun q93 => if q93.1 = 0 then zMod_escape_b137 N x3 q93.2 else zMod_escape_b99 N k88 x3 q93.2
theorem zMod_escape_b88_r (N : Nat) (k88 : Int → z_S → Option (Int × z_S)) (k88' : Int32 → g_S → Option (Int32 × g_S)) (hk88 : ∀ (y0 : Int) (_ : zin y0) (σ : z_S), zR σ → zrel (k88 y0 σ) (k88' (zI y0) (zo σ))) (x3 : Int) (hx3 : zin x3) (σ : z_S) (hσ : zR σ) : zrel (zMod_escape_b88 N k88 x3 σ) (Mod_escape_b88 N k88' (zI x3) (zo σ)) := by
  unfold zMod_escape_b88 Mod_escape_b88
  refine zr_bind (zr_of (zMod_see_r N _ (by decide) _ hσ) (congr (congrArg (Mod_see N) (zl_0)) rfl)) (fun r90 s90σ hr90 hs90 => ?_)
  dsimp only
  refine zr_bind (zr_of (zMod_isDigit_r N _ hr90 _ hs90) (congr (congrArg (Mod_isDigit N) rfl) rfl)) (fun r93 s93σ hr93 hs93 => ?_)
  dsimp only
  refine zr_ite (zI_eq rfl (zl_0) hr93 (by decide)) ?_ ?_
  · exact zr_of (zMod_escape_b137_r N _ hx3 _ hs93) (congr (congrArg (Mod_escape_b137 N) rfl) rfl)
  · exact zr_of (zMod_escape_b99_r N k88 k88' hk88 _ hx3 _ hs93) (congr (congrArg (Mod_escape_b99 N k88') rfl) rfl)
def zMod_escape_l88 (N : Nat) : Nat → Int → z_S → Option (Int × z_S)
  | 0 => fun _ _ => none
  | n + 1 => fun x3 σ => zMod_escape_b88 N (zMod_escape_l88 N n) x3 σ
theorem zMod_escape_l88_r (N : Nat) (n : Nat) : ∀ (x3 : Int) (hx3 : zin x3) (σ : z_S) (_ : zR σ), zrel (zMod_escape_l88 N n x3 σ) (Mod_escape_l88 N n (zI x3) (zo σ)) := by
  induction n with
  | zero => intro x3 hx3 σ hσ r s h; cases h
  | succ n ih => intro x3 hx3 σ hσ; exact zMod_escape_b88_r N _ _ (fun x3 hx3 σ hσ => ih x3 hx3 σ hσ) x3 hx3 σ hσ
def zMod_escape_b86 (N : Nat) (σ : z_S) : Option (Int × z_S) := zMod_escape_l88 N N 0 σ
theorem zMod_escape_b86_r (N : Nat) (σ : z_S) (hσ : zR σ) : zrel (zMod_escape_b86 N σ) (Mod_escape_b86 N (zo σ)) := by
  unfold zMod_escape_b86 Mod_escape_b86
  exact zr_of (zMod_escape_l88_r N N _ (by decide) _ hσ) (congr (congrArg (Mod_escape_l88 N N) (zl_0)) rfl)
def zMod_escape_b78 (N : Nat) (σ : z_S) : Option (Int × z_S) := (zMod_fail N (σ.1 11) σ).bind fun q83 => zMod_escape_b86 N q83.2
theorem zMod_escape_b78_r (N : Nat) (σ : z_S) (hσ : zR σ) : zrel (zMod_escape_b78 N σ) (Mod_escape_b78 N (zo σ)) := by
  unfold zMod_escape_b78 Mod_escape_b78
  refine zr_bind (zr_of (zMod_fail_r N _ (hσ.1 11) _ hσ) (congr (congrArg (Mod_fail N) (zo_fld rfl 11)) rfl)) (fun r83 s83σ hr83 hs83 => ?_)
  dsimp only
  exact zr_of (zMod_escape_b86_r N  _ hs83) (congrArg (Mod_escape_b86 N) rfl)
def zMod_escape_b74 (N : Nat) (x1 : Int) (σ : z_S) : Option (Int × z_S) := if x1 = 0 then zMod_escape_b86 N σ else zMod_escape_b78 N σ
theorem zMod_escape_b74_r (N : Nat) (x1 : Int) (hx1 : zin x1) (σ : z_S) (hσ : zR σ) : zrel (zMod_escape_b74 N x1 σ) (Mod_escape_b74 N (zI x1) (zo σ)) := by
  unfold zMod_escape_b74 Mod_escape_b74
  refine zr_ite (zI_eq rfl (zl_0) hx1 (by decide)) ?_ ?_
  · exact zr_of (zMod_escape_b86_r N  _ hσ) (congrArg (Mod_escape_b86 N) rfl)
  · exact zr_of (zMod_escape_b78_r N  _ hσ) (congrArg (Mod_escape_b78 N) rfl)
def zMod_escape_b67 (N : Nat) (x1 : Int) (x2 : Int) (σ : z_S) : Option (Int × z_S) := (zMod_isDigit N x2 σ).bind fun q68 => if q68.1 = 0 then zMod_escape_b144 N x1 x2 q68.2 else zMod_escape_b74 N x1 q68.2
theorem zMod_escape_b67_r (N : Nat) (x1 : Int) (hx1 : zin x1) (x2 : Int) (hx2 : zin x2) (σ : z_S) (hσ : zR σ) : zrel (zMod_escape_b67 N x1 x2 σ) (Mod_escape_b67 N (zI x1) (zI x2) (zo σ)) := by
  unfold zMod_escape_b67 Mod_escape_b67
  refine zr_bind (zr_of (zMod_isDigit_r N _ hx2 _ hσ) (congr (congrArg (Mod_isDigit N) rfl) rfl)) (fun r68 s68σ hr68 hs68 => ?_)
  dsimp only
  refine zr_ite (zI_eq rfl (zl_0) hr68 (by decide)) ?_ ?_
  · exact zr_of (zMod_escape_b144_r N _ hx1 _ hx2 _ hs68) (congr (congr (congrArg (Mod_escape_b144 N) rfl) rfl) rfl)
  · exact zr_of (zMod_escape_b74_r N _ hx1 _ hs68) (congr (congrArg (Mod_escape_b74 N) rfl) rfl)
def zMod_escape_b55 (N : Nat) (σ : z_S) : Option (Int × z_S) := if zin ((σ.1 11) + 1) then some (0, (zF σ 11 ((σ.1 11) + 1))) else none
theorem zMod_escape_b55_r (N : Nat) (σ : z_S) (hσ : zR σ) : zrel (zMod_escape_b55 N σ) (Mod_escape_b55 N (zo σ)) := by
  unfold zMod_escape_b55 Mod_escape_b55
  refine zr_g (fun g1 => ?_)
  exact zr_some (zl_0) (by decide) (zo_F (k := 11) rfl (zI_add (zo_fld rfl 11) (zl_1))) (zR_F (k := 11) hσ g1)
def zMod_escape_b45 (N : Nat) (σ : z_S) : Option (Int × z_S) := if zin ((σ.1 11) + 1) then (zMod_fail N ((σ.1 11) + 1) σ).bind fun q52 => zMod_escape_b55 N q52.2 else none
theorem zMod_escape_b45_r (N : Nat) (σ : z_S) (hσ : zR σ) : zrel (zMod_escape_b45 N σ) (Mod_escape_b45 N (zo σ)) := by
  unfold zMod_escape_b45 Mod_escape_b45
  refine zr_g (fun g1 => ?_)
  refine zr_bind (zr_of (zMod_fail_r N _ g1 _ hσ) (congr (congrArg (Mod_fail N) (zI_add (zo_fld rfl 11) (zl_1))) rfl)) (fun r52 s52σ hr52 hs52 => ?_)
  dsimp only
  exact zr_of (zMod_escape_b55_r N  _ hs52) (congrArg (Mod_escape_b55 N) rfl)
def zMod_escape_b29 (N : Nat) (σ : z_S) : Option (Int × z_S) := (zMod_see N 1 (zF σ 13 0)).bind fun q36 => (zMod_isDigit N q36.1 q36.2).bind fun q39 => if q39.1 = 0 then zMod_escape_b55 N q39.2 else zMod_escape_b45 N q39.2
theorem zMod_escape_b29_r (N : Nat) (σ : z_S) (hσ : zR σ) : zrel (zMod_escape_b29 N σ) (Mod_escape_b29 N (zo σ)) := by
  unfold zMod_escape_b29 Mod_escape_b29
  refine zr_bind (zr_of (zMod_see_r N _ (by decide) _ (zR_F (k := 13) hσ (by decide))) (congr (congrArg (Mod_see N) (zl_1)) (zo_F (k := 13) rfl (zl_0)))) (fun r36 s36σ hr36 hs36 => ?_)
  dsimp only
  refine zr_bind (zr_of (zMod_isDigit_r N _ hr36 _ hs36) (congr (congrArg (Mod_isDigit N) rfl) rfl)) (fun r39 s39σ hr39 hs39 => ?_)
  dsimp only
  refine zr_ite (zI_eq rfl (zl_0) hr39 (by decide)) ?_ ?_
  · exact zr_of (zMod_escape_b55_r N  _ hs39) (congrArg (Mod_escape_b55 N) rfl)
  · exact zr_of (zMod_escape_b45_r N  _ hs39) (congrArg (Mod_escape_b45 N) rfl)
def zMod_escape_b23 (N : Nat) (x1 : Int) (x2 : Int) (σ : z_S) : Option (Int × z_S) := if x2 = 48 then zMod_escape_b29 N σ else zMod_escape_b67 N x1 x2 σ
theorem zMod_escape_b23_r (N : Nat) (x1 : Int) (hx1 : zin x1) (x2 : Int) (hx2 : zin x2) (σ : z_S) (hσ : zR σ) : zrel (zMod_escape_b23 N x1 x2 σ) (Mod_escape_b23 N (zI x1) (zI x2) (zo σ)) := by
  unfold zMod_escape_b23 Mod_escape_b23
  refine zr_ite (zI_eq rfl (zl_48) hx2 (by decide)) ?_ ?_
  · exact zr_of (zMod_escape_b29_r N  _ hσ) (congrArg (Mod_escape_b29 N) rfl)
  · exact zr_of (zMod_escape_b67_r N _ hx1 _ hx2 _ hσ) (congr (congr (congrArg (Mod_escape_b67 N) rfl) rfl) rfl)
def zMod_escape_b15 (N : Nat) (x1 : Int) (x2 : Int) (σ : z_S) : Option (Int × z_S) := (zMod_fail N (σ.1 2) σ).bind fun q20 => zMod_escape_b23 N x1 x2 q20.2
theorem zMod_escape_b15_r (N : Nat) (x1 : Int) (hx1 : zin x1) (x2 : Int) (hx2 : zin x2) (σ : z_S) (hσ : zR σ) : zrel (zMod_escape_b15 N x1 x2 σ) (Mod_escape_b15 N (zI x1) (zI x2) (zo σ)) := by
  unfold zMod_escape_b15 Mod_escape_b15
  refine zr_bind (zr_of (zMod_fail_r N _ (hσ.1 2) _ hσ) (congr (congrArg (Mod_fail N) (zo_fld rfl 2)) rfl)) (fun r20 s20σ hr20 hs20 => ?_)
  dsimp only
  exact zr_of (zMod_escape_b23_r N _ hx1 _ hx2 _ hs20) (congr (congr (congrArg (Mod_escape_b23 N) rfl) rfl) rfl)
def zMod_escape_b0 (N : Nat) (x1 : Int) (σ : z_S) : Option (Int × z_S) := (zMod_see N 0 σ).bind fun q2 => if (0 : Int) ≤ q2.1 then zMod_escape_b23 N x1 q2.1 (zF q2.2 13 q2.1) else zMod_escape_b15 N x1 q2.1 (zF q2.2 13 q2.1)
theorem zMod_escape_b0_r (N : Nat) (x1 : Int) (hx1 : zin x1) (σ : z_S) (hσ : zR σ) : zrel (zMod_escape_b0 N x1 σ) (Mod_escape_b0 N (zI x1) (zo σ)) := by
  unfold zMod_escape_b0 Mod_escape_b0
  refine zr_bind (zr_of (zMod_see_r N _ (by decide) _ hσ) (congr (congrArg (Mod_see N) (zl_0)) rfl)) (fun r2 s2σ hr2 hs2 => ?_)
  dsimp only
  refine zr_ite (zI_le (zl_0) rfl (by decide) hr2) ?_ ?_
  · exact zr_of (zMod_escape_b23_r N _ hx1 _ hr2 _ (zR_F (k := 13) hs2 hr2)) (congr (congr (congrArg (Mod_escape_b23 N) rfl) rfl) (zo_F (k := 13) rfl rfl))
  · exact zr_of (zMod_escape_b15_r N _ hx1 _ hr2 _ (zR_F (k := 13) hs2 hr2)) (congr (congr (congrArg (Mod_escape_b15 N) rfl) rfl) (zo_F (k := 13) rfl rfl))
def zMod_escape (N : Nat) (x1 : Int) (σ : z_S) : Option (Int × z_S) := zMod_escape_b0 N x1 σ
theorem zMod_escape_r (N : Nat) (x1 : Int) (hx1 : zin x1) (σ : z_S) (hσ : zR σ) : zrel (zMod_escape N x1 σ) (Mod_escape N (zI x1) (zo σ)) := by
  unfold zMod_escape Mod_escape
  exact zr_of (zMod_escape_b0_r N _ hx1 _ hσ) (congr (congrArg (Mod_escape_b0 N) rfl) rfl)
def zMod_member_b42 (N : Nat) (σ : z_S) : Option (Int × z_S) := (zMod_see N 0 σ).bind fun q45 => if zin ((q45.2.1 11) + 1) then some (0, (zF (zF q45.2 13 q45.1) 11 ((q45.2.1 11) + 1))) else none
theorem zMod_member_b42_r (N : Nat) (σ : z_S) (hσ : zR σ) : zrel (zMod_member_b42 N σ) (Mod_member_b42 N (zo σ)) := by
  unfold zMod_member_b42 Mod_member_b42
  refine zr_bind (zr_of (zMod_see_r N _ (by decide) _ hσ) (congr (congrArg (Mod_see N) (zl_0)) rfl)) (fun r45 s45σ hr45 hs45 => ?_)
  dsimp only
  refine zr_g (fun g1 => ?_)
  exact zr_some (zl_0) (by decide) (zo_F (k := 11) (zo_F (k := 13) rfl rfl) (zI_add (zo_fld rfl 11) (zl_1))) (zR_F (k := 11) (zR_F (k := 13) hs45 hr45) g1)
def zMod_member_b26 (N : Nat) (σ : z_S) : Option (Int × z_S) := if zin ((σ.1 11) + 1) then (zMod_escape N 1 (zF σ 11 ((σ.1 11) + 1))).bind fun q38 => some (q38.1, q38.2) else none
theorem zMod_member_b26_r (N : Nat) (σ : z_S) (hσ : zR σ) : zrel (zMod_member_b26 N σ) (Mod_member_b26 N (zo σ)) := by
  unfold zMod_member_b26 Mod_member_b26
  refine zr_g (fun g1 => ?_)
  refine zr_bind (zr_of (zMod_escape_r N _ (by decide) _ (zR_F (k := 11) hσ g1)) (congr (congrArg (Mod_escape N) (zl_1)) (zo_F (k := 11) rfl (zI_add (zo_fld rfl 11) (zl_1))))) (fun r38 s38σ hr38 hs38 => ?_)
  dsimp only
  exact zr_some rfl hr38 rfl hs38
def zMod_member_b16 (N : Nat) (σ : z_S) : Option (Int × z_S) := (zMod_see N 0 σ).bind fun q18 => if q18.1 = 92 then zMod_member_b26 N q18.2 else zMod_member_b42 N q18.2
theorem zMod_member_b16_r (N : Nat) (σ : z_S) (hσ : zR σ) : zrel (zMod_member_b16 N σ) (Mod_member_b16 N (zo σ)) := by
  unfold zMod_member_b16 Mod_member_b16
  refine zr_bind (zr_of (zMod_see_r N _ (by decide) _ hσ) (congr (congrArg (Mod_see N) (zl_0)) rfl)) (fun r18 s18σ hr18 hs18 => ?_)
  dsimp only
  refine zr_ite (zI_eq rfl (zl_92) hr18 (by decide)) ?_ ?_
  · exact zr_of (zMod_member_b26_r N  _ hs18) (congrArg (Mod_member_b26 N) rfl)
  · exact zr_of (zMod_member_b42_r N  _ hs18) (congrArg (Mod_member_b42 N) rfl)
def zMod_member_b8 (N : Nat) (σ : z_S) : Option (Int × z_S) := (zMod_fail N (σ.1 2) σ).bind fun q13 => zMod_member_b16 N q13.2
theorem zMod_member_b8_r (N : Nat) (σ : z_S) (hσ : zR σ) : zrel (zMod_member_b8 N σ) (Mod_member_b8 N (zo σ)) := by
  unfold zMod_member_b8 Mod_member_b8
  refine zr_bind (zr_of (zMod_fail_r N _ (hσ.1 2) _ hσ) (congr (congrArg (Mod_fail N) (zo_fld rfl 2)) rfl)) (fun r13 s13σ hr13 hs13 => ?_)
  dsimp only
  exact zr_of (zMod_member_b16_r N  _ hs13) (congrArg (Mod_member_b16 N) rfl)
def zMod_member_b0 (N : Nat) (σ : z_S) : Option (Int × z_S) := (zMod_see N 0 σ).bind fun q2 => if (0 : Int) ≤ q2.1 then zMod_member_b16 N q2.2 else zMod_member_b8 N q2.2
theorem zMod_member_b0_r (N : Nat) (σ : z_S) (hσ : zR σ) : zrel (zMod_member_b0 N σ) (Mod_member_b0 N (zo σ)) := by
  unfold zMod_member_b0 Mod_member_b0
  refine zr_bind (zr_of (zMod_see_r N _ (by decide) _ hσ) (congr (congrArg (Mod_see N) (zl_0)) rfl)) (fun r2 s2σ hr2 hs2 => ?_)
  dsimp only
  refine zr_ite (zI_le (zl_0) rfl (by decide) hr2) ?_ ?_
  · exact zr_of (zMod_member_b16_r N  _ hs2) (congrArg (Mod_member_b16 N) rfl)
  · exact zr_of (zMod_member_b8_r N  _ hs2) (congrArg (Mod_member_b8 N) rfl)
def zMod_member (N : Nat) (σ : z_S) : Option (Int × z_S) := zMod_member_b0 N σ
theorem zMod_member_r (N : Nat) (σ : z_S) (hσ : zR σ) : zrel (zMod_member N σ) (Mod_member N (zo σ)) := by
  unfold zMod_member Mod_member
  exact zr_of (zMod_member_b0_r N  _ hσ) (congrArg (Mod_member_b0 N) rfl)
