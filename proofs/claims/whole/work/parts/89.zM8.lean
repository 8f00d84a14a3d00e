def zMod_match_b28 (N : Nat) (x3 : Int) (s1 : Int) (σ : z_S) : Option (Int × z_S) := if zB s1 then some (x3, (zF σ 15 s1)) else none
theorem zMod_match_b28_r (N : Nat) (x3 : Int) (hx3 : zin x3) (s1 : Int) (hs1 : zin s1) (σ : z_S) (hσ : zR σ) : zrel (zMod_match_b28 N x3 s1 σ) (Mod_match_b28 N (zI x3) (zI s1) (zo σ)) := by
  unfold zMod_match_b28 Mod_match_b28
  refine zr_gg (zg_B rfl) (fun g1 => ?_)
  exact zr_some rfl hx3 (zo_F (k := 15) rfl rfl) (zR_F (k := 15) hσ hs1)
def zMod_match_b27 (N : Nat) (x3 : Int) (σ : z_S) : Option (Int × z_S) := zMod_match_b28 N x3 0 σ
theorem zMod_match_b27_r (N : Nat) (x3 : Int) (hx3 : zin x3) (σ : z_S) (hσ : zR σ) : zrel (zMod_match_b27 N x3 σ) (Mod_match_b27 N (zI x3) (zo σ)) := by
  unfold zMod_match_b27 Mod_match_b27
  exact zr_of (zMod_match_b28_r N _ hx3 _ (by decide) _ hσ) (congr (congr (congrArg (Mod_match_b28 N) rfl) (zl_0)) rfl)
def zMod_match_b23 (N : Nat) (x3 : Int) (σ : z_S) : Option (Int × z_S) := zMod_match_b28 N x3 1 σ
theorem zMod_match_b23_r (N : Nat) (x3 : Int) (hx3 : zin x3) (σ : z_S) (hσ : zR σ) : zrel (zMod_match_b23 N x3 σ) (Mod_match_b23 N (zI x3) (zo σ)) := by
  unfold zMod_match_b23 Mod_match_b23
  exact zr_of (zMod_match_b28_r N _ hx3 _ (by decide) _ hσ) (congr (congr (congrArg (Mod_match_b28 N) rfl) (zl_1)) rfl)
def zMod_match_b11 (N : Nat) (x1 : Int) (σ : z_S) : Option (Int × z_S) := (zMod_tryAt N x1 σ).bind fun q13 => if q13.1 = 1 then zMod_match_b23 N q13.1 q13.2 else zMod_match_b27 N q13.1 q13.2
theorem zMod_match_b11_r (N : Nat) (x1 : Int) (hx1 : zin x1) (σ : z_S) (hσ : zR σ) : zrel (zMod_match_b11 N x1 σ) (Mod_match_b11 N (zI x1) (zo σ)) := by
  unfold zMod_match_b11 Mod_match_b11
  refine zr_bind (zr_of (zMod_tryAt_r N _ hx1 _ hσ) (congr (congrArg (Mod_tryAt N) rfl) rfl)) (fun r13 s13σ hr13 hs13 => ?_)
  dsimp only
  refine zr_ite (zI_eq rfl (zl_1) hr13 (by decide)) ?_ ?_
  · exact zr_of (zMod_match_b23_r N _ hr13 _ hs13) (congr (congrArg (Mod_match_b23 N) rfl) rfl)
  · exact zr_of (zMod_match_b27_r N _ hr13 _ hs13) (congr (congrArg (Mod_match_b27 N) rfl) rfl)
def zMod_match_b9 (N : Nat) (σ : z_S) : Option (Int × z_S) := some (0, σ)
theorem zMod_match_b9_r (N : Nat) (σ : z_S) (hσ : zR σ) : zrel (zMod_match_b9 N σ) (Mod_match_b9 N (zo σ)) := by
  unfold zMod_match_b9 Mod_match_b9
  exact zr_some (zl_0) (by decide) rfl hσ
def zMod_match_b0 (N : Nat) (x1 : Int) (x2 : Int) (σ : z_S) : Option (Int × z_S) := (zMod_begins N x1 x2 σ).bind fun q3 => if q3.1 = 0 then zMod_match_b9 N q3.2 else zMod_match_b11 N x1 q3.2
theorem zMod_match_b0_r (N : Nat) (x1 : Int) (hx1 : zin x1) (x2 : Int) (hx2 : zin x2) (σ : z_S) (hσ : zR σ) : zrel (zMod_match_b0 N x1 x2 σ) (Mod_match_b0 N (zI x1) (zI x2) (zo σ)) := by
  unfold zMod_match_b0 Mod_match_b0
  refine zr_bind (zr_of (zMod_begins_r N _ hx1 _ hx2 _ hσ) (congr (congr (congrArg (Mod_begins N) rfl) rfl) rfl)) (fun r3 s3σ hr3 hs3 => ?_)
  dsimp only
  refine zr_ite (zI_eq rfl (zl_0) hr3 (by decide)) ?_ ?_
  · exact zr_of (zMod_match_b9_r N  _ hs3) (congrArg (Mod_match_b9 N) rfl)
  · exact zr_of (zMod_match_b11_r N _ hx1 _ hs3) (congr (congrArg (Mod_match_b11 N) rfl) rfl)
def zMod_match (N : Nat) (x1 : Int) (x2 : Int) (σ : z_S) : Option (Int × z_S) := zMod_match_b0 N x1 x2 σ
theorem zMod_match_r (N : Nat) (x1 : Int) (hx1 : zin x1) (x2 : Int) (hx2 : zin x2) (σ : z_S) (hσ : zR σ) : zrel (zMod_match N x1 x2 σ) (Mod_match N (zI x1) (zI x2) (zo σ)) := by
  unfold zMod_match Mod_match
  exact zr_of (zMod_match_b0_r N _ hx1 _ hx2 _ hσ) (congr (congr (congrArg (Mod_match_b0 N) rfl) rfl) rfl)
def zMod_find_b53 (N : Nat) (x3 : Int) (s1 : Int) (σ : z_S) : Option (Int × z_S) := if zB s1 then some (x3, (zF σ 15 s1)) else none
theorem zMod_find_b53_r (N : Nat) (x3 : Int) (hx3 : zin x3) (s1 : Int) (hs1 : zin s1) (σ : z_S) (hσ : zR σ) : zrel (zMod_find_b53 N x3 s1 σ) (Mod_find_b53 N (zI x3) (zI s1) (zo σ)) := by
  unfold zMod_find_b53 Mod_find_b53
  refine zr_gg (zg_B rfl) (fun g1 => ?_)
  exact zr_some rfl hx3 (zo_F (k := 15) rfl rfl) (zR_F (k := 15) hσ hs1)
def zMod_find_b52 (N : Nat) (x3 : Int) (σ : z_S) : Option (Int × z_S) := zMod_find_b53 N x3 0 σ
theorem zMod_find_b52_r (N : Nat) (x3 : Int) (hx3 : zin x3) (σ : z_S) (hσ : zR σ) : zrel (zMod_find_b52 N x3 σ) (Mod_find_b52 N (zI x3) (zo σ)) := by
  unfold zMod_find_b52 Mod_find_b52
  exact zr_of (zMod_find_b53_r N _ hx3 _ (by decide) _ hσ) (congr (congr (congrArg (Mod_find_b53 N) rfl) (zl_0)) rfl)
def zMod_find_b48 (N : Nat) (x3 : Int) (σ : z_S) : Option (Int × z_S) := zMod_find_b53 N x3 1 σ
theorem zMod_find_b48_r (N : Nat) (x3 : Int) (hx3 : zin x3) (σ : z_S) (hσ : zR σ) : zrel (zMod_find_b48 N x3 σ) (Mod_find_b48 N (zI x3) (zo σ)) := by
  unfold zMod_find_b48 Mod_find_b48
  exact zr_of (zMod_find_b53_r N _ hx3 _ (by decide) _ hσ) (congr (congr (congrArg (Mod_find_b53 N) rfl) (zl_1)) rfl)
def zMod_find_b42 (N : Nat) (x3 : Int) (σ : z_S) : Option (Int × z_S) := if x3 = 1 then zMod_find_b48 N x3 σ else zMod_find_b52 N x3 σ
theorem zMod_find_b42_r (N : Nat) (x3 : Int) (hx3 : zin x3) (σ : z_S) (hσ : zR σ) : zrel (zMod_find_b42 N x3 σ) (Mod_find_b42 N (zI x3) (zo σ)) := by
  unfold zMod_find_b42 Mod_find_b42
  refine zr_ite (zI_eq rfl (zl_1) hx3 (by decide)) ?_ ?_
  · exact zr_of (zMod_find_b48_r N _ hx3 _ hσ) (congr (congrArg (Mod_find_b48 N) rfl) rfl)
  · exact zr_of (zMod_find_b52_r N _ hx3 _ hσ) (congr (congrArg (Mod_find_b52 N) rfl) rfl)
def zMod_find_b29 (N : Nat) (k16 : Int → Int → z_S → Option (Int × z_S)) (x4 : Int) (σ : z_S) : Option (Int × z_S) := (zMod_tryAt N x4 σ).bind fun q32 => if zin (x4 + 1) then k16 q32.1 (x4 + 1) q32.2 else none
theorem zMod_find_b29_r (N : Nat) (k16 : Int → Int → z_S → Option (Int × z_S)) (k16' : Int32 → Int32 → g_S → Option (Int32 × g_S)) (hk16 : ∀ (y0 : Int) (_ : zin y0) (y1 : Int) (_ : zin y1) (σ : z_S), zR σ → zrel (k16 y0 y1 σ) (k16' (zI y0) (zI y1) (zo σ))) (x4 : Int) (hx4 : zin x4) (σ : z_S) (hσ : zR σ) : zrel (zMod_find_b29 N k16 x4 σ) (Mod_find_b29 N k16' (zI x4) (zo σ)) := by
  unfold zMod_find_b29 Mod_find_b29
  refine zr_bind (zr_of (zMod_tryAt_r N _ hx4 _ hσ) (congr (congrArg (Mod_tryAt N) rfl) rfl)) (fun r32 s32σ hr32 hs32 => ?_)
  dsimp only
  refine zr_g (fun g1 => ?_)
  exact zr_of (hk16 _ hr32 _ g1 _ hs32) (congr (congr (congrArg (k16') rfl) (zI_add rfl (zl_1))) rfl)
def zMod_find_b25 (N : Nat) (k16 : Int → Int → z_S → Option (Int × z_S)) (x3 : Int) (x4 : Int) (σ : z_S) : Option (Int × z_S) := if x3 = 0 then zMod_find_b29 N k16 x4 σ else zMod_find_b42 N x3 σ
theorem zMod_find_b25_r (N : Nat) (k16 : Int → Int → z_S → Option (Int × z_S)) (k16' : Int32 → Int32 → g_S → Option (Int32 × g_S)) (hk16 : ∀ (y0 : Int) (_ : zin y0) (y1 : Int) (_ : zin y1) (σ : z_S), zR σ → zrel (k16 y0 y1 σ) (k16' (zI y0) (zI y1) (zo σ))) (x3 : Int) (hx3 : zin x3) (x4 : Int) (hx4 : zin x4) (σ : z_S) (hσ : zR σ) : zrel (zMod_find_b25 N k16 x3 x4 σ) (Mod_find_b25 N k16' (zI x3) (zI x4) (zo σ)) := by
  unfold zMod_find_b25 Mod_find_b25
  refine zr_ite (zI_eq rfl (zl_0) hx3 (by decide)) ?_ ?_
  · exact zr_of (zMod_find_b29_r N k16 k16' hk16 _ hx4 _ hσ) (congr (congrArg (Mod_find_b29 N k16') rfl) rfl)
  · exact zr_of (zMod_find_b42_r N _ hx3 _ hσ) (congr (congrArg (Mod_find_b42 N) rfl) rfl)
def zMod_find_b16 (N : Nat) (k16 : Int → Int → z_S → Option (Int × z_S)) (x3 : Int) (x4 : Int) (σ : z_S) : Option (Int × z_S) := if (σ.1 7) < x4 then zMod_find_b42 N x3 σ else zMod_find_b25 N k16 x3 x4 σ
theorem zMod_find_b16_r (N : Nat) (k16 : Int → Int → z_S → Option (Int × z_S)) (k16' : Int32 → Int32 → g_S → Option (Int32 × g_S)) (hk16 : ∀ (y0 : Int) (_ : zin y0) (y1 : Int) (_ : zin y1) (σ : z_S), zR σ → zrel (k16 y0 y1 σ) (k16' (zI y0) (zI y1) (zo σ))) (x3 : Int) (hx3 : zin x3) (x4 : Int) (hx4 : zin x4) (σ : z_S) (hσ : zR σ) : zrel (zMod_find_b16 N k16 x3 x4 σ) (Mod_find_b16 N k16' (zI x3) (zI x4) (zo σ)) := by
  unfold zMod_find_b16 Mod_find_b16
  refine zr_ite (zI_lt (zo_fld rfl 7) rfl (hσ.1 7) hx4) ?_ ?_
  · exact zr_of (zMod_find_b42_r N _ hx3 _ hσ) (congr (congrArg (Mod_find_b42 N) rfl) rfl)
  · exact zr_of (zMod_find_b25_r N k16 k16' hk16 _ hx3 _ hx4 _ hσ) (congr (congr (congrArg (Mod_find_b25 N k16') rfl) rfl) rfl)
def zMod_find_l16 (N : Nat) : Nat → Int → Int → z_S → Option (Int × z_S)
  | 0 => fun _ _ _ => none
  | n + 1 => fun x3 x4 σ => zMod_find_b16 N (zMod_find_l16 N n) x3 x4 σ
theorem zMod_find_l16_r (N : Nat) (n : Nat) : ∀ (x3 : Int) (hx3 : zin x3) (x4 : Int) (hx4 : zin x4) (σ : z_S) (_ : zR σ), zrel (zMod_find_l16 N n x3 x4 σ) (Mod_find_l16 N n (zI x3) (zI x4) (zo σ)) := by
  induction n with
  | zero => intro x3 hx3 x4 hx4 σ hσ r s h; cases h
  | succ n ih => intro x3 hx3 x4 hx4 σ hσ; exact zMod_find_b16_r N _ _ (fun x3 hx3 x4 hx4 σ hσ => ih x3 hx3 x4 hx4 σ hσ) x3 hx3 x4 hx4 σ hσ
def zMod_find_b11 (N : Nat) (x1 : Int) (σ : z_S) : Option (Int × z_S) := zMod_find_l16 N N 0 x1 σ
theorem zMod_find_b11_r (N : Nat) (x1 : Int) (hx1 : zin x1) (σ : z_S) (hσ : zR σ) : zrel (zMod_find_b11 N x1 σ) (Mod_find_b11 N (zI x1) (zo σ)) := by
  unfold zMod_find_b11 Mod_find_b11
  exact zr_of (zMod_find_l16_r N N _ (by decide) _ hx1 _ hσ) (congr (congr (congrArg (Mod_find_l16 N N) (zl_0)) rfl) rfl)
def zMod_find_b9 (N : Nat) (σ : z_S) : Option (Int × z_S) := some (0, σ)
theorem zMod_find_b9_r (N : Nat) (σ : z_S) (hσ : zR σ) : zrel (zMod_find_b9 N σ) (Mod_find_b9 N (zo σ)) := by
  unfold zMod_find_b9 Mod_find_b9
  exact zr_some (zl_0) (by decide) rfl hσ
def zMod_find_b0 (N : Nat) (x1 : Int) (x2 : Int) (σ : z_S) : Option (Int × z_S) := (zMod_begins N x1 x2 σ).bind fun q3 => if q3.1 = 0 then zMod_find_b9 N q3.2 else zMod_find_b11 N x1 q3.2
theorem zMod_find_b0_r (N : Nat) (x1 : Int) (hx1 : zin x1) (x2 : Int) (hx2 : zin x2) (σ : z_S) (hσ : zR σ) : zrel (zMod_find_b0 N x1 x2 σ) (Mod_find_b0 N (zI x1) (zI x2) (zo σ)) := by
  unfold zMod_find_b0 Mod_find_b0
  refine zr_bind (zr_of (zMod_begins_r N _ hx1 _ hx2 _ hσ) (congr (congr (congrArg (Mod_begins N) rfl) rfl) rfl)) (fun r3 s3σ hr3 hs3 => ?_)
  dsimp only
  refine zr_ite (zI_eq rfl (zl_0) hr3 (by decide)) ?_ ?_
  · exact zr_of (zMod_find_b9_r N  _ hs3) (congrArg (Mod_find_b9 N) rfl)
  · exact zr_of (zMod_find_b11_r N _ hx1 _ hs3) (congr (congrArg (Mod_find_b11 N) rfl) rfl)
def zMod_find (N : Nat) (x1 : Int) (x2 : Int) (σ : z_S) : Option (Int × z_S) := zMod_find_b0 N x1 x2 σ
theorem zMod_find_r (N : Nat) (x1 : Int) (hx1 : zin x1) (x2 : Int) (hx2 : zin x2) (σ : z_S) (hσ : zR σ) : zrel (zMod_find N x1 x2 σ) (Mod_find N (zI x1) (zI x2) (zo σ)) := by
  unfold zMod_find Mod_find
  exact zr_of (zMod_find_b0_r N _ hx1 _ hx2 _ hσ) (congr (congr (congrArg (Mod_find_b0 N) rfl) rfl) rfl)
def zMod_group_b57 (N : Nat) (s1 : Int) (s2 : Int) (σ : z_S) : Option (Int × z_S) := if zin (s1 + s2) then if zIn (s1 + s2) 42 then some ((σ.2 17 ((s1 + s2)).toNat), σ) else none else none
theorem zMod_group_b57_r (N : Nat) (s1 : Int) (hs1 : zin s1) (s2 : Int) (hs2 : zin s2) (σ : z_S) (hσ : zR σ) : zrel (zMod_group_b57 N s1 s2 σ) (Mod_group_b57 N (zI s1) (zI s2) (zo σ)) := by
  unfold zMod_group_b57 Mod_group_b57
  refine zr_g (fun g1 => ?_)
  refine zr_gg (zg_in (zI_add rfl rfl) g1) (fun g2 => ?_)
  exact zr_some (zo_get (j := 17) rfl (zI_add rfl rfl) g1) (hσ.2 17 _) rfl hσ
def zMod_group_b56 (N : Nat) (s1 : Int) (σ : z_S) : Option (Int × z_S) := zMod_group_b57 N s1 0 σ
theorem zMod_group_b56_r (N : Nat) (s1 : Int) (hs1 : zin s1) (σ : z_S) (hσ : zR σ) : zrel (zMod_group_b56 N s1 σ) (Mod_group_b56 N (zI s1) (zo σ)) := by
  unfold zMod_group_b56 Mod_group_b56
  exact zr_of (zMod_group_b57_r N _ hs1 _ (by decide) _ hσ) (congr (congr (congrArg (Mod_group_b57 N) rfl) (zl_0)) rfl)
def zMod_group_b52 (N : Nat) (s1 : Int) (σ : z_S) : Option (Int × z_S) := zMod_group_b57 N s1 1 σ
theorem zMod_group_b52_r (N : Nat) (s1 : Int) (hs1 : zin s1) (σ : z_S) (hσ : zR σ) : zrel (zMod_group_b52 N s1 σ) (Mod_group_b52 N (zI s1) (zo σ)) := by
  unfold zMod_group_b52 Mod_group_b52
  exact zr_of (zMod_group_b57_r N _ hs1 _ (by decide) _ hσ) (congr (congr (congrArg (Mod_group_b57 N) rfl) (zl_1)) rfl)
def zMod_group_b41 (N : Nat) (x1 : Int) (x2 : Int) (σ : z_S) : Option (Int × z_S) := if x2 = 0 then if zin (2 * x1) then zMod_group_b56 N (2 * x1) σ else none else if zin (2 * x1) then zMod_group_b52 N (2 * x1) σ else none
theorem zMod_group_b41_r (N : Nat) (x1 : Int) (hx1 : zin x1) (x2 : Int) (hx2 : zin x2) (σ : z_S) (hσ : zR σ) : zrel (zMod_group_b41 N x1 x2 σ) (Mod_group_b41 N (zI x1) (zI x2) (zo σ)) := by
  unfold zMod_group_b41 Mod_group_b41
  refine zr_ite (zI_eq rfl (zl_0) hx2 (by decide)) ?_ ?_
  · refine zr_g (fun g1 => ?_)
    exact zr_of (zMod_group_b56_r N _ g1 _ hσ) (congr (congrArg (Mod_group_b56 N) (zI_mul (zl_2) rfl)) rfl)
  · refine zr_g (fun g2 => ?_)
    exact zr_of (zMod_group_b52_r N _ g2 _ hσ) (congr (congrArg (Mod_group_b52 N) (zI_mul (zl_2) rfl)) rfl)
def zMod_group_b39 (N : Nat) (σ : z_S) : Option (Int × z_S) := some (0, σ)
theorem zMod_group_b39_r (N : Nat) (σ : z_S) (hσ : zR σ) : zrel (zMod_group_b39 N σ) (Mod_group_b39 N (zo σ)) := by
  unfold zMod_group_b39 Mod_group_b39
  exact zr_some (zl_0) (by decide) rfl hσ
def zMod_group_b29 (N : Nat) (x1 : Int) (x2 : Int) (s1 : Int) (σ : z_S) : Option (Int × z_S) := if s1 ≤ 0 then zMod_group_b41 N x1 x2 (zF σ 0 s1) else zMod_group_b39 N (zF σ 0 s1)
theorem zMod_group_b29_r (N : Nat) (x1 : Int) (hx1 : zin x1) (x2 : Int) (hx2 : zin x2) (s1 : Int) (hs1 : zin s1) (σ : z_S) (hσ : zR σ) : zrel (zMod_group_b29 N x1 x2 s1 σ) (Mod_group_b29 N (zI x1) (zI x2) (zI s1) (zo σ)) := by
  unfold zMod_group_b29 Mod_group_b29
  refine zr_ite (zI_le rfl (zl_0) hs1 (by decide)) ?_ ?_
  · exact zr_of (zMod_group_b41_r N _ hx1 _ hx2 _ (zR_F (k := 0) hσ hs1)) (congr (congr (congrArg (Mod_group_b41 N) rfl) rfl) (zo_F (k := 0) rfl rfl))
  · exact zr_of (zMod_group_b39_r N  _ (zR_F (k := 0) hσ hs1)) (congrArg (Mod_group_b39 N) (zo_F (k := 0) rfl rfl))
def zMod_group_b28 (N : Nat) (x1 : Int) (x2 : Int) (σ : z_S) : Option (Int × z_S) := zMod_group_b29 N x1 x2 0 σ
theorem zMod_group_b28_r (N : Nat) (x1 : Int) (hx1 : zin x1) (x2 : Int) (hx2 : zin x2) (σ : z_S) (hσ : zR σ) : zrel (zMod_group_b28 N x1 x2 σ) (Mod_group_b28 N (zI x1) (zI x2) (zo σ)) := by
  unfold zMod_group_b28 Mod_group_b28
  exact zr_of (zMod_group_b29_r N _ hx1 _ hx2 _ (by decide) _ hσ) (congr (congr (congr (congrArg (Mod_group_b29 N) rfl) rfl) (zl_0)) rfl)
def zMod_group_b24 (N : Nat) (x1 : Int) (x2 : Int) (σ : z_S) : Option (Int × z_S) := zMod_group_b29 N x1 x2 1 σ
theorem zMod_group_b24_r (N : Nat) (x1 : Int) (hx1 : zin x1) (x2 : Int) (hx2 : zin x2) (σ : z_S) (hσ : zR σ) : zrel (zMod_group_b24 N x1 x2 σ) (Mod_group_b24 N (zI x1) (zI x2) (zo σ)) := by
  unfold zMod_group_b24 Mod_group_b24
  exact zr_of (zMod_group_b29_r N _ hx1 _ hx2 _ (by decide) _ hσ) (congr (congr (congr (congrArg (Mod_group_b29 N) rfl) rfl) (zl_1)) rfl)
def zMod_group_b12 (N : Nat) (x1 : Int) (x2 : Int) (σ : z_S) : Option (Int × z_S) := (zMod_in N x1 0 (σ.1 9) σ).bind fun q18 => if q18.1 = 0 then zMod_group_b24 N x1 x2 q18.2 else zMod_group_b28 N x1 x2 q18.2
theorem zMod_group_b12_r (N : Nat) (x1 : Int) (hx1 : zin x1) (x2 : Int) (hx2 : zin x2) (σ : z_S) (hσ : zR σ) : zrel (zMod_group_b12 N x1 x2 σ) (Mod_group_b12 N (zI x1) (zI x2) (zo σ)) := by
  unfold zMod_group_b12 Mod_group_b12
  refine zr_bind (zr_of (zMod_in_r N _ hx1 _ (by decide) _ (hσ.1 9) _ hσ) (congr (congr (congr (congrArg (Mod_in N) rfl) (zl_0)) (zo_fld rfl 9)) rfl)) (fun r18 s18σ hr18 hs18 => ?_)
  dsimp only
  refine zr_ite (zI_eq rfl (zl_0) hr18 (by decide)) ?_ ?_
  · exact zr_of (zMod_group_b24_r N _ hx1 _ hx2 _ hs18) (congr (congr (congrArg (Mod_group_b24 N) rfl) rfl) rfl)
  · exact zr_of (zMod_group_b28_r N _ hx1 _ hx2 _ hs18) (congr (congr (congrArg (Mod_group_b28 N) rfl) rfl) rfl)
def zMod_group_b8 (N : Nat) (x1 : Int) (x2 : Int) (σ : z_S) : Option (Int × z_S) := zMod_group_b29 N x1 x2 2 σ
theorem zMod_group_b8_r (N : Nat) (x1 : Int) (hx1 : zin x1) (x2 : Int) (hx2 : zin x2) (σ : z_S) (hσ : zR σ) : zrel (zMod_group_b8 N x1 x2 σ) (Mod_group_b8 N (zI x1) (zI x2) (zo σ)) := by
  unfold zMod_group_b8 Mod_group_b8
  exact zr_of (zMod_group_b29_r N _ hx1 _ hx2 _ (by decide) _ hσ) (congr (congr (congr (congrArg (Mod_group_b29 N) rfl) rfl) (zl_2)) rfl)
def zMod_group_b0 (N : Nat) (x1 : Int) (x2 : Int) (σ : z_S) : Option (Int × z_S) := if (σ.1 15) = 0 then zMod_group_b8 N x1 x2 σ else zMod_group_b12 N x1 x2 σ
theorem zMod_group_b0_r (N : Nat) (x1 : Int) (hx1 : zin x1) (x2 : Int) (hx2 : zin x2) (σ : z_S) (hσ : zR σ) : zrel (zMod_group_b0 N x1 x2 σ) (Mod_group_b0 N (zI x1) (zI x2) (zo σ)) := by
  unfold zMod_group_b0 Mod_group_b0
  refine zr_ite (zI_eq (zo_fld rfl 15) (zl_0) (hσ.1 15) (by decide)) ?_ ?_
  · exact zr_of (zMod_group_b8_r N _ hx1 _ hx2 _ hσ) (congr (congr (congrArg (Mod_group_b8 N) rfl) rfl) rfl)
  · exact zr_of (zMod_group_b12_r N _ hx1 _ hx2 _ hσ) (congr (congr (congrArg (Mod_group_b12 N) rfl) rfl) rfl)
def zMod_group (N : Nat) (x1 : Int) (x2 : Int) (σ : z_S) : Option (Int × z_S) := zMod_group_b0 N x1 x2 σ
theorem zMod_group_r (N : Nat) (x1 : Int) (hx1 : zin x1) (x2 : Int) (hx2 : zin x2) (σ : z_S) (hσ : zR σ) : zrel (zMod_group N x1 x2 σ) (Mod_group N (zI x1) (zI x2) (zo σ)) := by
  unfold zMod_group Mod_group
  exact zr_of (zMod_group_b0_r N _ hx1 _ hx2 _ hσ) (congr (congr (congrArg (Mod_group_b0 N) rfl) rfl) rfl)
def zMod_steps_b0 (N : Nat) (σ : z_S) : Option (Int × z_S) := some ((σ.1 16), (zF σ 0 0))
theorem zMod_steps_b0_r (N : Nat) (σ : z_S) (hσ : zR σ) : zrel (zMod_steps_b0 N σ) (Mod_steps_b0 N (zo σ)) := by
  unfold zMod_steps_b0 Mod_steps_b0
  exact zr_some (zo_fld rfl 16) (hσ.1 16) (zo_F (k := 0) rfl (zl_0)) (zR_F (k := 0) hσ (by decide))
def zMod_steps (N : Nat) (σ : z_S) : Option (Int × z_S) := zMod_steps_b0 N σ
theorem zMod_steps_r (N : Nat) (σ : z_S) (hσ : zR σ) : zrel (zMod_steps N σ) (Mod_steps N (zo σ)) := by
  unfold zMod_steps Mod_steps
  exact zr_of (zMod_steps_b0_r N  _ hσ) (congrArg (Mod_steps_b0 N) rfl)
