def zMod_aClass_b262 (N : Nat) (x2 : Int) (σ : z_S) : Option (Int × z_S) := if zIn x2 1300 then if zin ((σ.1 11) + 1) then some (x2, (zA (zF σ 11 ((σ.1 11) + 1)) 5 (x2).toNat (σ.1 10))) else none else none
theorem zMod_aClass_b262_r (N : Nat) (x2 : Int) (hx2 : zin x2) (σ : z_S) (hσ : zR σ) : zrel (zMod_aClass_b262 N x2 σ) (Mod_aClass_b262 N (zI x2) (zo σ)) := by
  unfold zMod_aClass_b262 Mod_aClass_b262
  refine zr_gg (zg_in rfl hx2) (fun g1 => ?_)
  refine zr_g (fun g2 => ?_)
  exact zr_some rfl hx2 (zo_A (a := 5) (zo_F (k := 11) rfl (zI_add (zo_fld rfl 11) (zl_1))) rfl hx2 (zo_fld rfl 10)) (zR_A (a := 5) (i := _) (zR_F (k := 11) hσ g2) (hσ.1 10))
def zMod_aClass_b249 (N : Nat) (k51 : Int → z_S → Option (Int × z_S)) (x2 : Int) (σ : z_S) : Option (Int × z_S) := if zin ((σ.1 10) + 1) then k51 x2 (zF σ 10 ((σ.1 10) + 1)) else none
theorem zMod_aClass_b249_r (N : Nat) (k51 : Int → z_S → Option (Int × z_S)) (k51' : Int32 → g_S → Option (Int32 × g_S)) (hk51 : ∀ (y0 : Int) (_ : zin y0) (σ : z_S), zR σ → zrel (k51 y0 σ) (k51' (zI y0) (zo σ))) (x2 : Int) (hx2 : zin x2) (σ : z_S) (hσ : zR σ) : zrel (zMod_aClass_b249 N k51 x2 σ) (Mod_aClass_b249 N k51' (zI x2) (zo σ)) := by
  unfold zMod_aClass_b249 Mod_aClass_b249
  refine zr_g (fun g1 => ?_)
  exact zr_of (hk51 _ hx2 _ (zR_F (k := 10) hσ g1)) (congr (congrArg (k51') rfl) (zo_F (k := 10) rfl (zI_add (zo_fld rfl 10) (zl_1))))
def zMod_aClass_b236 (N : Nat) (k51 : Int → z_S → Option (Int × z_S)) (x2 : Int) (σ : z_S) : Option (Int × z_S) := if zIn (σ.1 10) 200 then zMod_aClass_b249 N k51 x2 (zA σ 13 ((σ.1 10)).toNat (σ.1 13)) else none
theorem zMod_aClass_b236_r (N : Nat) (k51 : Int → z_S → Option (Int × z_S)) (k51' : Int32 → g_S → Option (Int32 × g_S)) (hk51 : ∀ (y0 : Int) (_ : zin y0) (σ : z_S), zR σ → zrel (k51 y0 σ) (k51' (zI y0) (zo σ))) (x2 : Int) (hx2 : zin x2) (σ : z_S) (hσ : zR σ) : zrel (zMod_aClass_b236 N k51 x2 σ) (Mod_aClass_b236 N k51' (zI x2) (zo σ)) := by
  unfold zMod_aClass_b236 Mod_aClass_b236
  refine zr_gg (zg_in (zo_fld rfl 10) (hσ.1 10)) (fun g1 => ?_)
  exact zr_of (zMod_aClass_b249_r N k51 k51' hk51 _ hx2 _ (zR_A (a := 13) (i := _) hσ (hσ.1 13))) (congr (congrArg (Mod_aClass_b249 N k51') rfl) (zo_A (a := 13) rfl (zo_fld rfl 10) (hσ.1 10) (zo_fld rfl 13)))
def zMod_aClass_b230 (N : Nat) (k51 : Int → z_S → Option (Int × z_S)) (x2 : Int) (x5 : Int) (σ : z_S) : Option (Int × z_S) := (zMod_fail N x5 σ).bind fun q233 => zMod_aClass_b236 N k51 x2 q233.2
theorem zMod_aClass_b230_r (N : Nat) (k51 : Int → z_S → Option (Int × z_S)) (k51' : Int32 → g_S → Option (Int32 × g_S)) (hk51 : ∀ (y0 : Int) (_ : zin y0) (σ : z_S), zR σ → zrel (k51 y0 σ) (k51' (zI y0) (zo σ))) (x2 : Int) (hx2 : zin x2) (x5 : Int) (hx5 : zin x5) (σ : z_S) (hσ : zR σ) : zrel (zMod_aClass_b230 N k51 x2 x5 σ) (Mod_aClass_b230 N k51' (zI x2) (zI x5) (zo σ)) := by
  unfold zMod_aClass_b230 Mod_aClass_b230
  refine zr_bind (zr_of (zMod_fail_r N _ hx5 _ hσ) (congr (congrArg (Mod_fail N) rfl) rfl)) (fun r233 s233σ hr233 hs233 => ?_)
  dsimp only
  exact zr_of (zMod_aClass_b236_r N k51 k51' hk51 _ hx2 _ hs233) (congr (congrArg (Mod_aClass_b236 N k51') rfl) rfl)
def zMod_aClass_b214 (N : Nat) (k51 : Int → z_S → Option (Int × z_S)) (x2 : Int) (x5 : Int) (σ : z_S) : Option (Int × z_S) := if zIn (σ.1 10) 200 then if (σ.2 12 ((σ.1 10)).toNat) ≤ (σ.1 13) then zMod_aClass_b236 N k51 x2 σ else zMod_aClass_b230 N k51 x2 x5 σ else none
theorem zMod_aClass_b214_r (N : Nat) (k51 : Int → z_S → Option (Int × z_S)) (k51' : Int32 → g_S → Option (Int32 × g_S)) (hk51 : ∀ (y0 : Int) (_ : zin y0) (σ : z_S), zR σ → zrel (k51 y0 σ) (k51' (zI y0) (zo σ))) (x2 : Int) (hx2 : zin x2) (x5 : Int) (hx5 : zin x5) (σ : z_S) (hσ : zR σ) : zrel (zMod_aClass_b214 N k51 x2 x5 σ) (Mod_aClass_b214 N k51' (zI x2) (zI x5) (zo σ)) := by
  unfold zMod_aClass_b214 Mod_aClass_b214
  refine zr_gg (zg_in (zo_fld rfl 10) (hσ.1 10)) (fun g1 => ?_)
  refine zr_ite (zI_le (zo_get (j := 12) rfl (zo_fld rfl 10) (hσ.1 10)) (zo_fld rfl 13) (hσ.2 12 _) (hσ.1 13)) ?_ ?_
  · exact zr_of (zMod_aClass_b236_r N k51 k51' hk51 _ hx2 _ hσ) (congr (congrArg (Mod_aClass_b236 N k51') rfl) rfl)
  · exact zr_of (zMod_aClass_b230_r N k51 k51' hk51 _ hx2 _ hx5 _ hσ) (congr (congr (congrArg (Mod_aClass_b230 N k51') rfl) rfl) rfl)
def zMod_aClass_b186 (N : Nat) (k51 : Int → z_S → Option (Int × z_S)) (x2 : Int) (σ : z_S) : Option (Int × z_S) := if zin ((σ.1 11) + 1) then (zMod_member N (zF σ 11 ((σ.1 11) + 1))).bind fun q203 => if q203.1 = 1 then zMod_aClass_b230 N k51 x2 ((σ.1 11) + 1) q203.2 else zMod_aClass_b214 N k51 x2 ((σ.1 11) + 1) q203.2 else none
theorem zMod_aClass_b186_r (N : Nat) (k51 : Int → z_S → Option (Int × z_S)) (k51' : Int32 → g_S → Option (Int32 × g_S)) (hk51 : ∀ (y0 : Int) (_ : zin y0) (σ : z_S), zR σ → zrel (k51 y0 σ) (k51' (zI y0) (zo σ))) (x2 : Int) (hx2 : zin x2) (σ : z_S) (hσ : zR σ) : zrel (zMod_aClass_b186 N k51 x2 σ) (Mod_aClass_b186 N k51' (zI x2) (zo σ)) := by
  unfold zMod_aClass_b186 Mod_aClass_b186
  refine zr_g (fun g1 => ?_)
  refine zr_bind (zr_of (zMod_member_r N  _ (zR_F (k := 11) hσ g1)) (congrArg (Mod_member N) (zo_F (k := 11) rfl (zI_add (zo_fld rfl 11) (zl_1))))) (fun r203 s203σ hr203 hs203 => ?_)
  dsimp only
  refine zr_ite (zI_eq rfl (zl_1) hr203 (by decide)) ?_ ?_
  · exact zr_of (zMod_aClass_b230_r N k51 k51' hk51 _ hx2 _ g1 _ hs203) (congr (congr (congrArg (Mod_aClass_b230 N k51') rfl) (zI_add (zo_fld rfl 11) (zl_1))) rfl)
  · exact zr_of (zMod_aClass_b214_r N k51 k51' hk51 _ hx2 _ g1 _ hs203) (congr (congr (congrArg (Mod_aClass_b214 N k51') rfl) (zI_add (zo_fld rfl 11) (zl_1))) rfl)
def zMod_aClass_b179 (N : Nat) (k51 : Int → z_S → Option (Int × z_S)) (x2 : Int) (σ : z_S) : Option (Int × z_S) := if (0 : Int) ≤ (σ.1 12) then zMod_aClass_b249 N k51 x2 σ else zMod_aClass_b186 N k51 x2 σ
theorem zMod_aClass_b179_r (N : Nat) (k51 : Int → z_S → Option (Int × z_S)) (k51' : Int32 → g_S → Option (Int32 × g_S)) (hk51 : ∀ (y0 : Int) (_ : zin y0) (σ : z_S), zR σ → zrel (k51 y0 σ) (k51' (zI y0) (zo σ))) (x2 : Int) (hx2 : zin x2) (σ : z_S) (hσ : zR σ) : zrel (zMod_aClass_b179 N k51 x2 σ) (Mod_aClass_b179 N k51' (zI x2) (zo σ)) := by
  unfold zMod_aClass_b179 Mod_aClass_b179
  refine zr_ite (zI_le (zl_0) (zo_fld rfl 12) (by decide) (hσ.1 12)) ?_ ?_
  · exact zr_of (zMod_aClass_b249_r N k51 k51' hk51 _ hx2 _ hσ) (congr (congrArg (Mod_aClass_b249 N k51') rfl) rfl)
  · exact zr_of (zMod_aClass_b186_r N k51 k51' hk51 _ hx2 _ hσ) (congr (congrArg (Mod_aClass_b186 N k51') rfl) rfl)
def zMod_aClass_b174 (N : Nat) (k51 : Int → z_S → Option (Int × z_S)) (x2 : Int) (x4 : Int) (σ : z_S) : Option (Int × z_S) := if x4 = 0 then zMod_aClass_b249 N k51 x2 σ else zMod_aClass_b179 N k51 x2 σ
theorem zMod_aClass_b174_r (N : Nat) (k51 : Int → z_S → Option (Int × z_S)) (k51' : Int32 → g_S → Option (Int32 × g_S)) (hk51 : ∀ (y0 : Int) (_ : zin y0) (σ : z_S), zR σ → zrel (k51 y0 σ) (k51' (zI y0) (zo σ))) (x2 : Int) (hx2 : zin x2) (x4 : Int) (hx4 : zin x4) (σ : z_S) (hσ : zR σ) : zrel (zMod_aClass_b174 N k51 x2 x4 σ) (Mod_aClass_b174 N k51' (zI x2) (zI x4) (zo σ)) := by
  unfold zMod_aClass_b174 Mod_aClass_b174
  refine zr_ite (zI_eq rfl (zl_0) hx4 (by decide)) ?_ ?_
  · exact zr_of (zMod_aClass_b249_r N k51 k51' hk51 _ hx2 _ hσ) (congr (congrArg (Mod_aClass_b249 N k51') rfl) rfl)
  · exact zr_of (zMod_aClass_b179_r N k51 k51' hk51 _ hx2 _ hσ) (congr (congrArg (Mod_aClass_b179 N k51') rfl) rfl)
def zMod_aClass_b166 (N : Nat) (k51 : Int → z_S → Option (Int × z_S)) (x2 : Int) (x4 : Int) (σ : z_S) : Option (Int × z_S) := (zMod_fail N (σ.1 11) σ).bind fun q171 => zMod_aClass_b174 N k51 x2 x4 q171.2
theorem zMod_aClass_b166_r (N : Nat) (k51 : Int → z_S → Option (Int × z_S)) (k51' : Int32 → g_S → Option (Int32 × g_S)) (hk51 : ∀ (y0 : Int) (_ : zin y0) (σ : z_S), zR σ → zrel (k51 y0 σ) (k51' (zI y0) (zo σ))) (x2 : Int) (hx2 : zin x2) (x4 : Int) (hx4 : zin x4) (σ : z_S) (hσ : zR σ) : zrel (zMod_aClass_b166 N k51 x2 x4 σ) (Mod_aClass_b166 N k51' (zI x2) (zI x4) (zo σ)) := by
  unfold zMod_aClass_b166 Mod_aClass_b166
  refine zr_bind (zr_of (zMod_fail_r N _ (hσ.1 11) _ hσ) (congr (congrArg (Mod_fail N) (zo_fld rfl 11)) rfl)) (fun r171 s171σ hr171 hs171 => ?_)
  dsimp only
  exact zr_of (zMod_aClass_b174_r N k51 k51' hk51 _ hx2 _ hx4 _ hs171) (congr (congr (congrArg (Mod_aClass_b174 N k51') rfl) rfl) rfl)
def zMod_aClass_b161 (N : Nat) (k51 : Int → z_S → Option (Int × z_S)) (x2 : Int) (x3 : Int) (x4 : Int) (σ : z_S) : Option (Int × z_S) := if x3 = 1 then zMod_aClass_b166 N k51 x2 x4 σ else zMod_aClass_b174 N k51 x2 x4 σ
theorem zMod_aClass_b161_r (N : Nat) (k51 : Int → z_S → Option (Int × z_S)) (k51' : Int32 → g_S → Option (Int32 × g_S)) (hk51 : ∀ (y0 : Int) (_ : zin y0) (σ : z_S), zR σ → zrel (k51 y0 σ) (k51' (zI y0) (zo σ))) (x2 : Int) (hx2 : zin x2) (x3 : Int) (hx3 : zin x3) (x4 : Int) (hx4 : zin x4) (σ : z_S) (hσ : zR σ) : zrel (zMod_aClass_b161 N k51 x2 x3 x4 σ) (Mod_aClass_b161 N k51' (zI x2) (zI x3) (zI x4) (zo σ)) := by
  unfold zMod_aClass_b161 Mod_aClass_b161
  refine zr_ite (zI_eq rfl (zl_1) hx3 (by decide)) ?_ ?_
  · exact zr_of (zMod_aClass_b166_r N k51 k51' hk51 _ hx2 _ hx4 _ hσ) (congr (congr (congrArg (Mod_aClass_b166 N k51') rfl) rfl) rfl)
  · exact zr_of (zMod_aClass_b174_r N k51 k51' hk51 _ hx2 _ hx4 _ hσ) (congr (congr (congrArg (Mod_aClass_b174 N k51') rfl) rfl) rfl)
def zMod_aClass_b156 (N : Nat) (k51 : Int → z_S → Option (Int × z_S)) (x2 : Int) (x3 : Int) (x4 : Int) (σ : z_S) : Option (Int × z_S) := if x4 = 0 then zMod_aClass_b174 N k51 x2 x4 σ else zMod_aClass_b161 N k51 x2 x3 x4 σ
theorem zMod_aClass_b156_r (N : Nat) (k51 : Int → z_S → Option (Int × z_S)) (k51' : Int32 → g_S → Option (Int32 × g_S)) (hk51 : ∀ (y0 : Int) (_ : zin y0) (σ : z_S), zR σ → zrel (k51 y0 σ) (k51' (zI y0) (zo σ))) (x2 : Int) (hx2 : zin x2) (x3 : Int) (hx3 : zin x3) (x4 : Int) (hx4 : zin x4) (σ : z_S) (hσ : zR σ) : zrel (zMod_aClass_b156 N k51 x2 x3 x4 σ) (Mod_aClass_b156 N k51' (zI x2) (zI x3) (zI x4) (zo σ)) := by
  unfold zMod_aClass_b156 Mod_aClass_b156
  refine zr_ite (zI_eq rfl (zl_0) hx4 (by decide)) ?_ ?_
  · exact zr_of (zMod_aClass_b174_r N k51 k51' hk51 _ hx2 _ hx4 _ hσ) (congr (congr (congrArg (Mod_aClass_b174 N k51') rfl) rfl) rfl)
  · exact zr_of (zMod_aClass_b161_r N k51 k51' hk51 _ hx2 _ hx3 _ hx4 _ hσ) (congr (congr (congr (congrArg (Mod_aClass_b161 N k51') rfl) rfl) rfl) rfl)
def zMod_aClass_b148 (N : Nat) (k51 : Int → z_S → Option (Int × z_S)) (x2 : Int) (x3 : Int) (x4 : Int) (σ : z_S) : Option (Int × z_S) := (zMod_fail N (σ.1 2) σ).bind fun q153 => zMod_aClass_b156 N k51 x2 x3 x4 q153.2
theorem zMod_aClass_b148_r (N : Nat) (k51 : Int → z_S → Option (Int × z_S)) (k51' : Int32 → g_S → Option (Int32 × g_S)) (hk51 : ∀ (y0 : Int) (_ : zin y0) (σ : z_S), zR σ → zrel (k51 y0 σ) (k51' (zI y0) (zo σ))) (x2 : Int) (hx2 : zin x2) (x3 : Int) (hx3 : zin x3) (x4 : Int) (hx4 : zin x4) (σ : z_S) (hσ : zR σ) : zrel (zMod_aClass_b148 N k51 x2 x3 x4 σ) (Mod_aClass_b148 N k51' (zI x2) (zI x3) (zI x4) (zo σ)) := by
  unfold zMod_aClass_b148 Mod_aClass_b148
  refine zr_bind (zr_of (zMod_fail_r N _ (hσ.1 2) _ hσ) (congr (congrArg (Mod_fail N) (zo_fld rfl 2)) rfl)) (fun r153 s153σ hr153 hs153 => ?_)
  dsimp only
  exact zr_of (zMod_aClass_b156_r N k51 k51' hk51 _ hx2 _ hx3 _ hx4 _ hs153) (congr (congr (congr (congrArg (Mod_aClass_b156 N k51') rfl) rfl) rfl) rfl)
def zMod_aClass_b140 (N : Nat) (k51 : Int → z_S → Option (Int × z_S)) (x2 : Int) (x3 : Int) (x4 : Int) (σ : z_S) : Option (Int × z_S) := (zMod_see N 1 σ).bind fun q142 => if (0 : Int) ≤ q142.1 then zMod_aClass_b156 N k51 x2 x3 x4 q142.2 else zMod_aClass_b148 N k51 x2 x3 x4 q142.2
theorem zMod_aClass_b140_r (N : Nat) (k51 : Int → z_S → Option (Int × z_S)) (k51' : Int32 → g_S → Option (Int32 × g_S)) (hk51 : ∀ (y0 : Int) (_ : zin y0) (σ : z_S), zR σ → zrel (k51 y0 σ) (k51' (zI y0) (zo σ))) (x2 : Int) (hx2 : zin x2) (x3 : Int) (hx3 : zin x3) (x4 : Int) (hx4 : zin x4) (σ : z_S) (hσ : zR σ) : zrel (zMod_aClass_b140 N k51 x2 x3 x4 σ) (Mod_aClass_b140 N k51' (zI x2) (zI x3) (zI x4) (zo σ)) := by
  unfold zMod_aClass_b140 Mod_aClass_b140
  refine zr_bind (zr_of (zMod_see_r N _ (by decide) _ hσ) (congr (congrArg (Mod_see N) (zl_1)) rfl)) (fun r142 s142σ hr142 hs142 => ?_)
  dsimp only
  refine zr_ite (zI_le (zl_0) rfl (by decide) hr142) ?_ ?_
  · exact zr_of (zMod_aClass_b156_r N k51 k51' hk51 _ hx2 _ hx3 _ hx4 _ hs142) (congr (congr (congr (congrArg (Mod_aClass_b156 N k51') rfl) rfl) rfl) rfl)
  · exact zr_of (zMod_aClass_b148_r N k51 k51' hk51 _ hx2 _ hx3 _ hx4 _ hs142) (congr (congr (congr (congrArg (Mod_aClass_b148 N k51') rfl) rfl) rfl) rfl)
def zMod_aClass_b133 (N : Nat) (k51 : Int → z_S → Option (Int × z_S)) (x2 : Int) (x3 : Int) (s0 : Int) (σ : z_S) : Option (Int × z_S) := if s0 = 0 then zMod_aClass_b156 N k51 x2 x3 s0 σ else zMod_aClass_b140 N k51 x2 x3 s0 σ
theorem zMod_aClass_b133_r (N : Nat) (k51 : Int → z_S → Option (Int × z_S)) (k51' : Int32 → g_S → Option (Int32 × g_S)) (hk51 : ∀ (y0 : Int) (_ : zin y0) (σ : z_S), zR σ → zrel (k51 y0 σ) (k51' (zI y0) (zo σ))) (x2 : Int) (hx2 : zin x2) (x3 : Int) (hx3 : zin x3) (s0 : Int) (hs0 : zin s0) (σ : z_S) (hσ : zR σ) : zrel (zMod_aClass_b133 N k51 x2 x3 s0 σ) (Mod_aClass_b133 N k51' (zI x2) (zI x3) (zI s0) (zo σ)) := by
  unfold zMod_aClass_b133 Mod_aClass_b133
  refine zr_ite (zI_eq rfl (zl_0) hs0 (by decide)) ?_ ?_
  · exact zr_of (zMod_aClass_b156_r N k51 k51' hk51 _ hx2 _ hx3 _ hs0 _ hσ) (congr (congr (congr (congrArg (Mod_aClass_b156 N k51') rfl) rfl) rfl) rfl)
  · exact zr_of (zMod_aClass_b140_r N k51 k51' hk51 _ hx2 _ hx3 _ hs0 _ hσ) (congr (congr (congr (congrArg (Mod_aClass_b140 N k51') rfl) rfl) rfl) rfl)
def zMod_aClass_b132 (N : Nat) (k51 : Int → z_S → Option (Int × z_S)) (x2 : Int) (x3 : Int) (σ : z_S) : Option (Int × z_S) := zMod_aClass_b133 N k51 x2 x3 0 σ
theorem zMod_aClass_b132_r (N : Nat) (k51 : Int → z_S → Option (Int × z_S)) (k51' : Int32 → g_S → Option (Int32 × g_S)) (hk51 : ∀ (y0 : Int) (_ : zin y0) (σ : z_S), zR σ → zrel (k51 y0 σ) (k51' (zI y0) (zo σ))) (x2 : Int) (hx2 : zin x2) (x3 : Int) (hx3 : zin x3) (σ : z_S) (hσ : zR σ) : zrel (zMod_aClass_b132 N k51 x2 x3 σ) (Mod_aClass_b132 N k51' (zI x2) (zI x3) (zo σ)) := by
  unfold zMod_aClass_b132 Mod_aClass_b132
  exact zr_of (zMod_aClass_b133_r N k51 k51' hk51 _ hx2 _ hx3 _ (by decide) _ hσ) (congr (congr (congr (congrArg (Mod_aClass_b133 N k51') rfl) rfl) (zl_0)) rfl)
def zMod_aClass_b128 (N : Nat) (k51 : Int → z_S → Option (Int × z_S)) (x2 : Int) (x3 : Int) (σ : z_S) : Option (Int × z_S) := zMod_aClass_b133 N k51 x2 x3 1 σ
theorem zMod_aClass_b128_r (N : Nat) (k51 : Int → z_S → Option (Int × z_S)) (k51' : Int32 → g_S → Option (Int32 × g_S)) (hk51 : ∀ (y0 : Int) (_ : zin y0) (σ : z_S), zR σ → zrel (k51 y0 σ) (k51' (zI y0) (zo σ))) (x2 : Int) (hx2 : zin x2) (x3 : Int) (hx3 : zin x3) (σ : z_S) (hσ : zR σ) : zrel (zMod_aClass_b128 N k51 x2 x3 σ) (Mod_aClass_b128 N k51' (zI x2) (zI x3) (zo σ)) := by
  unfold zMod_aClass_b128 Mod_aClass_b128
  exact zr_of (zMod_aClass_b133_r N k51 k51' hk51 _ hx2 _ hx3 _ (by decide) _ hσ) (congr (congr (congr (congrArg (Mod_aClass_b133 N k51') rfl) rfl) (zl_1)) rfl)
def zMod_aClass_b118 (N : Nat) (k51 : Int → z_S → Option (Int × z_S)) (x2 : Int) (x3 : Int) (σ : z_S) : Option (Int × z_S) := (zMod_see N 1 σ).bind fun q120 => if q120.1 = 93 then zMod_aClass_b132 N k51 x2 x3 q120.2 else zMod_aClass_b128 N k51 x2 x3 q120.2
theorem zMod_aClass_b118_r (N : Nat) (k51 : Int → z_S → Option (Int × z_S)) (k51' : Int32 → g_S → Option (Int32 × g_S)) (hk51 : ∀ (y0 : Int) (_ : zin y0) (σ : z_S), zR σ → zrel (k51 y0 σ) (k51' (zI y0) (zo σ))) (x2 : Int) (hx2 : zin x2) (x3 : Int) (hx3 : zin x3) (σ : z_S) (hσ : zR σ) : zrel (zMod_aClass_b118 N k51 x2 x3 σ) (Mod_aClass_b118 N k51' (zI x2) (zI x3) (zo σ)) := by
  unfold zMod_aClass_b118 Mod_aClass_b118
  refine zr_bind (zr_of (zMod_see_r N _ (by decide) _ hσ) (congr (congrArg (Mod_see N) (zl_1)) rfl)) (fun r120 s120σ hr120 hs120 => ?_)
  dsimp only
  refine zr_ite (zI_eq rfl (zl_93) hr120 (by decide)) ?_ ?_
  · exact zr_of (zMod_aClass_b132_r N k51 k51' hk51 _ hx2 _ hx3 _ hs120) (congr (congr (congrArg (Mod_aClass_b132 N k51') rfl) rfl) rfl)
  · exact zr_of (zMod_aClass_b128_r N k51 k51' hk51 _ hx2 _ hx3 _ hs120) (congr (congr (congrArg (Mod_aClass_b128 N k51') rfl) rfl) rfl)
def zMod_aClass_b107 (N : Nat) (k51 : Int → z_S → Option (Int × z_S)) (x2 : Int) (x3 : Int) (s1 : Int) (s2 : Int) (σ : z_S) : Option (Int × z_S) := if zIn s1 200 then (zMod_see N 0 (zA σ 13 (s1).toNat s2)).bind fun q110 => if q110.1 = 45 then zMod_aClass_b118 N k51 x2 x3 q110.2 else zMod_aClass_b132 N k51 x2 x3 q110.2 else none
theorem zMod_aClass_b107_r (N : Nat) (k51 : Int → z_S → Option (Int × z_S)) (k51' : Int32 → g_S → Option (Int32 × g_S)) (hk51 : ∀ (y0 : Int) (_ : zin y0) (σ : z_S), zR σ → zrel (k51 y0 σ) (k51' (zI y0) (zo σ))) (x2 : Int) (hx2 : zin x2) (x3 : Int) (hx3 : zin x3) (s1 : Int) (hs1 : zin s1) (s2 : Int) (hs2 : zin s2) (σ : z_S) (hσ : zR σ) : zrel (zMod_aClass_b107 N k51 x2 x3 s1 s2 σ) (Mod_aClass_b107 N k51' (zI x2) (zI x3) (zI s1) (zI s2) (zo σ)) := by
  unfold zMod_aClass_b107 Mod_aClass_b107
  refine zr_gg (zg_in rfl hs1) (fun g1 => ?_)
  refine zr_bind (zr_of (zMod_see_r N _ (by decide) _ (zR_A (a := 13) (i := _) hσ hs2)) (congr (congrArg (Mod_see N) (zl_0)) (zo_A (a := 13) rfl rfl hs1 rfl))) (fun r110 s110σ hr110 hs110 => ?_)
  dsimp only
  refine zr_ite (zI_eq rfl (zl_45) hr110 (by decide)) ?_ ?_
  · exact zr_of (zMod_aClass_b118_r N k51 k51' hk51 _ hx2 _ hx3 _ hs110) (congr (congr (congrArg (Mod_aClass_b118 N k51') rfl) rfl) rfl)
  · exact zr_of (zMod_aClass_b132_r N k51 k51' hk51 _ hx2 _ hx3 _ hs110) (congr (congr (congrArg (Mod_aClass_b132 N k51') rfl) rfl) rfl)
def zMod_aClass_b103 (N : Nat) (k51 : Int → z_S → Option (Int × z_S)) (x2 : Int) (x3 : Int) (s1 : Int) (σ : z_S) : Option (Int × z_S) := zMod_aClass_b107 N k51 x2 x3 s1 (σ.1 13) σ
theorem zMod_aClass_b103_r (N : Nat) (k51 : Int → z_S → Option (Int × z_S)) (k51' : Int32 → g_S → Option (Int32 × g_S)) (hk51 : ∀ (y0 : Int) (_ : zin y0) (σ : z_S), zR σ → zrel (k51 y0 σ) (k51' (zI y0) (zo σ))) (x2 : Int) (hx2 : zin x2) (x3 : Int) (hx3 : zin x3) (s1 : Int) (hs1 : zin s1) (σ : z_S) (hσ : zR σ) : zrel (zMod_aClass_b103 N k51 x2 x3 s1 σ) (Mod_aClass_b103 N k51' (zI x2) (zI x3) (zI s1) (zo σ)) := by
  unfold zMod_aClass_b103 Mod_aClass_b103
  exact zr_of (zMod_aClass_b107_r N k51 k51' hk51 _ hx2 _ hx3 _ hs1 _ (hσ.1 13) _ hσ) (congr (congr (congr (congr (congrArg (Mod_aClass_b107 N k51') rfl) rfl) rfl) (zo_fld rfl 13)) rfl)
def zMod_aClass_b99 (N : Nat) (k51 : Int → z_S → Option (Int × z_S)) (x2 : Int) (x3 : Int) (s1 : Int) (σ : z_S) : Option (Int × z_S) := zMod_aClass_b107 N k51 x2 x3 s1 (-1) σ
theorem zMod_aClass_b99_r (N : Nat) (k51 : Int → z_S → Option (Int × z_S)) (k51' : Int32 → g_S → Option (Int32 × g_S)) (hk51 : ∀ (y0 : Int) (_ : zin y0) (σ : z_S), zR σ → zrel (k51 y0 σ) (k51' (zI y0) (zo σ))) (x2 : Int) (hx2 : zin x2) (x3 : Int) (hx3 : zin x3) (s1 : Int) (hs1 : zin s1) (σ : z_S) (hσ : zR σ) : zrel (zMod_aClass_b99 N k51 x2 x3 s1 σ) (Mod_aClass_b99 N k51' (zI x2) (zI x3) (zI s1) (zo σ)) := by
  unfold zMod_aClass_b99 Mod_aClass_b99
  exact zr_of (zMod_aClass_b107_r N k51 k51' hk51 _ hx2 _ hx3 _ hs1 _ (by decide) _ hσ) (congr (congr (congr (congr (congrArg (Mod_aClass_b107 N k51') rfl) rfl) rfl) (zl_m1)) rfl)
def zMod_aClass_b68 (N : Nat) (k51 : Int → z_S → Option (Int × z_S)) (x2 : Int) (σ : z_S) : Option (Int × z_S) := (zMod_member N σ).bind fun q69 => if zIn (q69.2.1 10) 200 then if q69.1 = 1 then zMod_aClass_b99 N k51 x2 q69.1 (q69.2.1 10) (zA q69.2 12 ((q69.2.1 10)).toNat (q69.2.1 13)) else zMod_aClass_b103 N k51 x2 q69.1 (q69.2.1 10) (zA q69.2 12 ((q69.2.1 10)).toNat (q69.2.1 13)) else none
theorem zMod_aClass_b68_r (N : Nat) (k51 : Int → z_S → Option (Int × z_S)) (k51' : Int32 → g_S → Option (Int32 × g_S)) (hk51 : ∀ (y0 : Int) (_ : zin y0) (σ : z_S), zR σ → zrel (k51 y0 σ) (k51' (zI y0) (zo σ))) (x2 : Int) (hx2 : zin x2) (σ : z_S) (hσ : zR σ) : zrel (zMod_aClass_b68 N k51 x2 σ) (Mod_aClass_b68 N k51' (zI x2) (zo σ)) := by
  unfold zMod_aClass_b68 Mod_aClass_b68
  refine zr_bind (zr_of (zMod_member_r N  _ hσ) (congrArg (Mod_member N) rfl)) (fun r69 s69σ hr69 hs69 => ?_)
  dsimp only
  refine zr_gg (zg_in (zo_fld rfl 10) (hs69.1 10)) (fun g1 => ?_)
  refine zr_ite (zI_eq rfl (zl_1) hr69 (by decide)) ?_ ?_
  · exact zr_of (zMod_aClass_b99_r N k51 k51' hk51 _ hx2 _ hr69 _ (hs69.1 10) _ (zR_A (a := 12) (i := _) hs69 (hs69.1 13))) (congr (congr (congr (congrArg (Mod_aClass_b99 N k51') rfl) rfl) (zo_fld rfl 10)) (zo_A (a := 12) rfl (zo_fld rfl 10) (hs69.1 10) (zo_fld rfl 13)))
  · exact zr_of (zMod_aClass_b103_r N k51 k51' hk51 _ hx2 _ hr69 _ (hs69.1 10) _ (zR_A (a := 12) (i := _) hs69 (hs69.1 13))) (congr (congr (congr (congrArg (Mod_aClass_b103 N k51') rfl) rfl) (zo_fld rfl 10)) (zo_A (a := 12) rfl (zo_fld rfl 10) (hs69.1 10) (zo_fld rfl 13)))
def zMod_aClass_b61 (N : Nat) (k51 : Int → z_S → Option (Int × z_S)) (x2 : Int) (σ : z_S) : Option (Int × z_S) := if (0 : Int) ≤ (σ.1 12) then zMod_aClass_b262 N x2 σ else zMod_aClass_b68 N k51 x2 σ
theorem zMod_aClass_b61_r (N : Nat) (k51 : Int → z_S → Option (Int × z_S)) (k51' : Int32 → g_S → Option (Int32 × g_S)) (hk51 : ∀ (y0 : Int) (_ : zin y0) (σ : z_S), zR σ → zrel (k51 y0 σ) (k51' (zI y0) (zo σ))) (x2 : Int) (hx2 : zin x2) (σ : z_S) (hσ : zR σ) : zrel (zMod_aClass_b61 N k51 x2 σ) (Mod_aClass_b61 N k51' (zI x2) (zo σ)) := by
  unfold zMod_aClass_b61 Mod_aClass_b61
  refine zr_ite (zI_le (zl_0) (zo_fld rfl 12) (by decide) (hσ.1 12)) ?_ ?_
  · exact zr_of (zMod_aClass_b262_r N _ hx2 _ hσ) (congr (congrArg (Mod_aClass_b262 N) rfl) rfl)
  · exact zr_of (zMod_aClass_b68_r N k51 k51' hk51 _ hx2 _ hσ) (congr (congrArg (Mod_aClass_b68 N k51') rfl) rfl)
def zMod_aClass_b51 (N : Nat) (k51 : Int → z_S → Option (Int × z_S)) (x2 : Int) (σ : z_S) : Option (Int × z_S) := (zMod_see N 0 σ).bind fun q53 => if q53.1 = 93 then zMod_aClass_b262 N x2 q53.2 else zMod_aClass_b61 N k51 x2 q53.2
theorem zMod_aClass_b51_r (N : Nat) (k51 : Int → z_S → Option (Int × z_S)) (k51' : Int32 → g_S → Option (Int32 × g_S)) (hk51 : ∀ (y0 : Int) (_ : zin y0) (σ : z_S), zR σ → zrel (k51 y0 σ) (k51' (zI y0) (zo σ))) (x2 : Int) (hx2 : zin x2) (σ : z_S) (hσ : zR σ) : zrel (zMod_aClass_b51 N k51 x2 σ) (Mod_aClass_b51 N k51' (zI x2) (zo σ)) := by
  unfold zMod_aClass_b51 Mod_aClass_b51
  refine zr_bind (zr_of (zMod_see_r N _ (by decide) _ hσ) (congr (congrArg (Mod_see N) (zl_0)) rfl)) (fun r53 s53σ hr53 hs53 => ?_)
  dsimp only
  refine zr_ite (zI_eq rfl (zl_93) hr53 (by decide)) ?_ ?_
  · exact zr_of (zMod_aClass_b262_r N _ hx2 _ hs53) (congr (congrArg (Mod_aClass_b262 N) rfl) rfl)
  · exact zr_of (zMod_aClass_b61_r N k51 k51' hk51 _ hx2 _ hs53) (congr (congrArg (Mod_aClass_b61 N k51') rfl) rfl)
def zMod_aClass_l51 (N : Nat) : Nat → Int → z_S → Option (Int × z_S)
  | 0 => fun _ _ => none
  | n + 1 => fun x2 σ => zMod_aClass_b51 N (zMod_aClass_l51 N n) x2 σ
theorem zMod_aClass_l51_r (N : Nat) (n : Nat) : ∀ (x2 : Int) (hx2 : zin x2) (σ : z_S) (_ : zR σ), zrel (zMod_aClass_l51 N n x2 σ) (Mod_aClass_l51 N n (zI x2) (zo σ)) := by
  induction n with
  | zero => intro x2 hx2 σ hσ r s h; cases h
  | succ n ih => intro x2 hx2 σ hσ; exact zMod_aClass_b51_r N _ _ (fun x2 hx2 σ hσ => ih x2 hx2 σ hσ) x2 hx2 σ hσ
def zMod_aClass_b47 (N : Nat) (s1 : Int) (s2 : Int) (s3 : Int) (s4 : Int) (σ : z_S) : Option (Int × z_S) := (zMod_node N s1 s2 s3 s4 σ).bind fun q47 => zMod_aClass_l51 N N q47.1 q47.2
theorem zMod_aClass_b47_r (N : Nat) (s1 : Int) (hs1 : zin s1) (s2 : Int) (hs2 : zin s2) (s3 : Int) (hs3 : zin s3) (s4 : Int) (hs4 : zin s4) (σ : z_S) (hσ : zR σ) : zrel (zMod_aClass_b47 N s1 s2 s3 s4 σ) (Mod_aClass_b47 N (zI s1) (zI s2) (zI s3) (zI s4) (zo σ)) := by
  unfold zMod_aClass_b47 Mod_aClass_b47
  refine zr_bind (zr_of (zMod_node_r N _ hs1 _ hs2 _ hs3 _ hs4 _ hσ) (congr (congr (congr (congr (congrArg (Mod_node N) rfl) rfl) rfl) rfl) rfl)) (fun r47 s47σ hr47 hs47 => ?_)
  dsimp only
  exact zr_of (zMod_aClass_l51_r N N _ hr47 _ hs47) (congr (congrArg (Mod_aClass_l51 N N) rfl) rfl)
def zMod_aClass_b46 (N : Nat) (s1 : Int) (s2 : Int) (s3 : Int) (σ : z_S) : Option (Int × z_S) := zMod_aClass_b47 N s1 s2 s3 0 σ
theorem zMod_aClass_b46_r (N : Nat) (s1 : Int) (hs1 : zin s1) (s2 : Int) (hs2 : zin s2) (s3 : Int) (hs3 : zin s3) (σ : z_S) (hσ : zR σ) : zrel (zMod_aClass_b46 N s1 s2 s3 σ) (Mod_aClass_b46 N (zI s1) (zI s2) (zI s3) (zo σ)) := by
  unfold zMod_aClass_b46 Mod_aClass_b46
  exact zr_of (zMod_aClass_b47_r N _ hs1 _ hs2 _ hs3 _ (by decide) _ hσ) (congr (congr (congr (congr (congrArg (Mod_aClass_b47 N) rfl) rfl) rfl) (zl_0)) rfl)
def zMod_aClass_b42 (N : Nat) (s1 : Int) (s2 : Int) (s3 : Int) (σ : z_S) : Option (Int × z_S) := zMod_aClass_b47 N s1 s2 s3 1 σ
theorem zMod_aClass_b42_r (N : Nat) (s1 : Int) (hs1 : zin s1) (s2 : Int) (hs2 : zin s2) (s3 : Int) (hs3 : zin s3) (σ : z_S) (hσ : zR σ) : zrel (zMod_aClass_b42 N s1 s2 s3 σ) (Mod_aClass_b42 N (zI s1) (zI s2) (zI s3) (zo σ)) := by
  unfold zMod_aClass_b42 Mod_aClass_b42
  exact zr_of (zMod_aClass_b47_r N _ hs1 _ hs2 _ hs3 _ (by decide) _ hσ) (congr (congr (congr (congr (congrArg (Mod_aClass_b47 N) rfl) rfl) rfl) (zl_1)) rfl)
def zMod_aClass_b30 (N : Nat) (x1 : Int) (σ : z_S) : Option (Int × z_S) := if x1 = 0 then zMod_aClass_b46 N 6 (σ.1 10) 0 σ else zMod_aClass_b42 N 6 (σ.1 10) 0 σ
theorem zMod_aClass_b30_r (N : Nat) (x1 : Int) (hx1 : zin x1) (σ : z_S) (hσ : zR σ) : zrel (zMod_aClass_b30 N x1 σ) (Mod_aClass_b30 N (zI x1) (zo σ)) := by
  unfold zMod_aClass_b30 Mod_aClass_b30
  refine zr_ite (zI_eq rfl (zl_0) hx1 (by decide)) ?_ ?_
  · exact zr_of (zMod_aClass_b46_r N _ (by decide) _ (hσ.1 10) _ (by decide) _ hσ) (congr (congr (congr (congrArg (Mod_aClass_b46 N) (zl_6)) (zo_fld rfl 10)) (zl_0)) rfl)
  · exact zr_of (zMod_aClass_b42_r N _ (by decide) _ (hσ.1 10) _ (by decide) _ hσ) (congr (congr (congr (congrArg (Mod_aClass_b42 N) (zl_6)) (zo_fld rfl 10)) (zl_0)) rfl)
def zMod_aClass_b20 (N : Nat) (x1 : Int) (σ : z_S) : Option (Int × z_S) := if zin ((σ.1 11) + 1) then zMod_aClass_b30 N x1 (zF σ 11 ((σ.1 11) + 1)) else none
theorem zMod_aClass_b20_r (N : Nat) (x1 : Int) (hx1 : zin x1) (σ : z_S) (hσ : zR σ) : zrel (zMod_aClass_b20 N x1 σ) (Mod_aClass_b20 N (zI x1) (zo σ)) := by
  unfold zMod_aClass_b20 Mod_aClass_b20
  refine zr_g (fun g1 => ?_)
  exact zr_of (zMod_aClass_b30_r N _ hx1 _ (zR_F (k := 11) hσ g1)) (congr (congrArg (Mod_aClass_b30 N) rfl) (zo_F (k := 11) rfl (zI_add (zo_fld rfl 11) (zl_1))))
def zMod_aClass_b15 (N : Nat) (s0 : Int) (σ : z_S) : Option (Int × z_S) := if s0 = 0 then zMod_aClass_b30 N s0 σ else zMod_aClass_b20 N s0 σ
theorem zMod_aClass_b15_r (N : Nat) (s0 : Int) (hs0 : zin s0) (σ : z_S) (hσ : zR σ) : zrel (zMod_aClass_b15 N s0 σ) (Mod_aClass_b15 N (zI s0) (zo σ)) := by
  unfold zMod_aClass_b15 Mod_aClass_b15
  refine zr_ite (zI_eq rfl (zl_0) hs0 (by decide)) ?_ ?_
  · exact zr_of (zMod_aClass_b30_r N _ hs0 _ hσ) (congr (congrArg (Mod_aClass_b30 N) rfl) rfl)
  · exact zr_of (zMod_aClass_b20_r N _ hs0 _ hσ) (congr (congrArg (Mod_aClass_b20 N) rfl) rfl)
def zMod_aClass_b14 (N : Nat) (σ : z_S) : Option (Int × z_S) := zMod_aClass_b15 N 0 σ
theorem zMod_aClass_b14_r (N : Nat) (σ : z_S) (hσ : zR σ) : zrel (zMod_aClass_b14 N σ) (Mod_aClass_b14 N (zo σ)) := by
  unfold zMod_aClass_b14 Mod_aClass_b14
  exact zr_of (zMod_aClass_b15_r N _ (by decide) _ hσ) (congr (congrArg (Mod_aClass_b15 N) (zl_0)) rfl)
def zMod_aClass_b10 (N : Nat) (σ : z_S) : Option (Int × z_S) := zMod_aClass_b15 N 1 σ
theorem zMod_aClass_b10_r (N : Nat) (σ : z_S) (hσ : zR σ) : zrel (zMod_aClass_b10 N σ) (Mod_aClass_b10 N (zo σ)) := by
  unfold zMod_aClass_b10 Mod_aClass_b10
  exact zr_of (zMod_aClass_b15_r N _ (by decide) _ hσ) (congr (congrArg (Mod_aClass_b15 N) (zl_1)) rfl)
def zMod_aClass_b0 (N : Nat) (σ : z_S) : Option (Int × z_S) := (zMod_see N 0 σ).bind fun q2 => if q2.1 = 94 then zMod_aClass_b10 N q2.2 else zMod_aClass_b14 N q2.2
theorem zMod_aClass_b0_r (N : Nat) (σ : z_S) (hσ : zR σ) : zrel (zMod_aClass_b0 N σ) (Mod_aClass_b0 N (zo σ)) := by
  unfold zMod_aClass_b0 Mod_aClass_b0
  refine zr_bind (zr_of (zMod_see_r N _ (by decide) _ hσ) (congr (congrArg (Mod_see N) (zl_0)) rfl)) (fun r2 s2σ hr2 hs2 => ?_)
  dsimp only
  refine zr_ite (zI_eq rfl (zl_94) hr2 (by decide)) ?_ ?_
  · exact zr_of (zMod_aClass_b10_r N  _ hs2) (congrArg (Mod_aClass_b10 N) rfl)
  · exact zr_of (zMod_aClass_b14_r N  _ hs2) (congrArg (Mod_aClass_b14 N) rfl)
def zMod_aClass (N : Nat) (σ : z_S) : Option (Int × z_S) := zMod_aClass_b0 N σ
theorem zMod_aClass_r (N : Nat) (σ : z_S) (hσ : zR σ) : zrel (zMod_aClass N σ) (Mod_aClass N (zo σ)) := by
  unfold zMod_aClass Mod_aClass
  exact zr_of (zMod_aClass_b0_r N  _ hσ) (congrArg (Mod_aClass_b0 N) rfl)
def zMod_isAbove_b145 (N : Nat) (s0 : Int) (σ : z_S) : Option (Int × z_S) := if zB s0 then some (s0, σ) else none
theorem zMod_isAbove_b145_r (N : Nat) (s0 : Int) (hs0 : zin s0) (σ : z_S) (hσ : zR σ) : zrel (zMod_isAbove_b145 N s0 σ) (Mod_isAbove_b145 N (zI s0) (zo σ)) := by
  unfold zMod_isAbove_b145 Mod_isAbove_b145
  refine zr_gg (zg_B rfl) (fun g1 => ?_)
  exact zr_some rfl hs0 rfl hσ
def zMod_isAbove_b144 (N : Nat) (σ : z_S) : Option (Int × z_S) := zMod_isAbove_b145 N 0 σ
theorem zMod_isAbove_b144_r (N : Nat) (σ : z_S) (hσ : zR σ) : zrel (zMod_isAbove_b144 N σ) (Mod_isAbove_b144 N (zo σ)) := by
  unfold zMod_isAbove_b144 Mod_isAbove_b144
  exact zr_of (zMod_isAbove_b145_r N _ (by decide) _ hσ) (congr (congrArg (Mod_isAbove_b145 N) (zl_0)) rfl)
def zMod_isAbove_b140 (N : Nat) (σ : z_S) : Option (Int × z_S) := zMod_isAbove_b145 N 1 σ
theorem zMod_isAbove_b140_r (N : Nat) (σ : z_S) (hσ : zR σ) : zrel (zMod_isAbove_b140 N σ) (Mod_isAbove_b140 N (zo σ)) := by
  unfold zMod_isAbove_b140 Mod_isAbove_b140
  exact zr_of (zMod_isAbove_b145_r N _ (by decide) _ hσ) (congr (congrArg (Mod_isAbove_b145 N) (zl_1)) rfl)
def zMod_isAbove_b123 (N : Nat) (x5 : Int) (x6 : Int) (σ : z_S) : Option (Int × z_S) := if zIn x5 200 then if zIn x6 200 then if (σ.2 1 (x5).toNat) ≤ (σ.2 1 (x6).toNat) then zMod_isAbove_b144 N σ else zMod_isAbove_b140 N σ else none else none
theorem zMod_isAbove_b123_r (N : Nat) (x5 : Int) (hx5 : zin x5) (x6 : Int) (hx6 : zin x6) (σ : z_S) (hσ : zR σ) : zrel (zMod_isAbove_b123 N x5 x6 σ) (Mod_isAbove_b123 N (zI x5) (zI x6) (zo σ)) := by
  unfold zMod_isAbove_b123 Mod_isAbove_b123
  refine zr_gg (zg_in rfl hx5) (fun g1 => ?_)
  refine zr_gg (zg_in rfl hx6) (fun g2 => ?_)
  refine zr_ite (zI_le (zo_get (j := 1) rfl rfl hx5) (zo_get (j := 1) rfl rfl hx6) (hσ.2 1 _) (hσ.2 1 _)) ?_ ?_
  · exact zr_of (zMod_isAbove_b144_r N  _ hσ) (congrArg (Mod_isAbove_b144 N) rfl)
  · exact zr_of (zMod_isAbove_b140_r N  _ hσ) (congrArg (Mod_isAbove_b140 N) rfl)
def zMod_isAbove_b114 (N : Nat) (k89 : Int → Int → Int → z_S → Option (Int × z_S)) (x2 : Int) (x5 : Int) (x6 : Int) (σ : z_S) : Option (Int × z_S) := if zin (x5 + 1) then if zin (x6 + 1) then k89 x2 (x5 + 1) (x6 + 1) σ else none else none
theorem zMod_isAbove_b114_r (N : Nat) (k89 : Int → Int → Int → z_S → Option (Int × z_S)) (k89' : Int32 → Int32 → Int32 → g_S → Option (Int32 × g_S)) (hk89 : ∀ (y0 : Int) (_ : zin y0) (y1 : Int) (_ : zin y1) (y2 : Int) (_ : zin y2) (σ : z_S), zR σ → zrel (k89 y0 y1 y2 σ) (k89' (zI y0) (zI y1) (zI y2) (zo σ))) (x2 : Int) (hx2 : zin x2) (x5 : Int) (hx5 : zin x5) (x6 : Int) (hx6 : zin x6) (σ : z_S) (hσ : zR σ) : zrel (zMod_isAbove_b114 N k89 x2 x5 x6 σ) (Mod_isAbove_b114 N k89' (zI x2) (zI x5) (zI x6) (zo σ)) := by
  unfold zMod_isAbove_b114 Mod_isAbove_b114
  refine zr_g (fun g1 => ?_)
  refine zr_g (fun g2 => ?_)
  exact zr_of (hk89 _ hx2 _ g1 _ g2 _ hσ) (congr (congr (congr (congrArg (k89') rfl) (zI_add rfl (zl_1))) (zI_add rfl (zl_1))) rfl)
def zMod_isAbove_b97 (N : Nat) (k89 : Int → Int → Int → z_S → Option (Int × z_S)) (x2 : Int) (x5 : Int) (x6 : Int) (σ : z_S) : Option (Int × z_S) := if zIn x5 200 then if zIn x6 200 then if (σ.2 1 (x5).toNat) = (σ.2 1 (x6).toNat) then zMod_isAbove_b114 N k89 x2 x5 x6 σ else zMod_isAbove_b123 N x5 x6 σ else none else none
theorem zMod_isAbove_b97_r (N : Nat) (k89 : Int → Int → Int → z_S → Option (Int × z_S)) (k89' : Int32 → Int32 → Int32 → g_S → Option (Int32 × g_S)) (hk89 : ∀ (y0 : Int) (_ : zin y0) (y1 : Int) (_ : zin y1) (y2 : Int) (_ : zin y2) (σ : z_S), zR σ → zrel (k89 y0 y1 y2 σ) (k89' (zI y0) (zI y1) (zI y2) (zo σ))) (x2 : Int) (hx2 : zin x2) (x5 : Int) (hx5 : zin x5) (x6 : Int) (hx6 : zin x6) (σ : z_S) (hσ : zR σ) : zrel (zMod_isAbove_b97 N k89 x2 x5 x6 σ) (Mod_isAbove_b97 N k89' (zI x2) (zI x5) (zI x6) (zo σ)) := by
  unfold zMod_isAbove_b97 Mod_isAbove_b97
  refine zr_gg (zg_in rfl hx5) (fun g1 => ?_)
  refine zr_gg (zg_in rfl hx6) (fun g2 => ?_)
  refine zr_ite (zI_eq (zo_get (j := 1) rfl rfl hx5) (zo_get (j := 1) rfl rfl hx6) (hσ.2 1 _) (hσ.2 1 _)) ?_ ?_
  · exact zr_of (zMod_isAbove_b114_r N k89 k89' hk89 _ hx2 _ hx5 _ hx6 _ hσ) (congr (congr (congr (congrArg (Mod_isAbove_b114 N k89') rfl) rfl) rfl) rfl)
  · exact zr_of (zMod_isAbove_b123_r N _ hx5 _ hx6 _ hσ) (congr (congr (congrArg (Mod_isAbove_b123 N) rfl) rfl) rfl)
def zMod_isAbove_b89 (N : Nat) (k89 : Int → Int → Int → z_S → Option (Int × z_S)) (x2 : Int) (x5 : Int) (x6 : Int) (σ : z_S) : Option (Int × z_S) := if zin (x2 - 1) then if (x2 - 1) ≤ x5 then zMod_isAbove_b123 N x5 x6 σ else zMod_isAbove_b97 N k89 x2 x5 x6 σ else none
theorem zMod_isAbove_b89_r (N : Nat) (k89 : Int → Int → Int → z_S → Option (Int × z_S)) (k89' : Int32 → Int32 → Int32 → g_S → Option (Int32 × g_S)) (hk89 : ∀ (y0 : Int) (_ : zin y0) (y1 : Int) (_ : zin y1) (y2 : Int) (_ : zin y2) (σ : z_S), zR σ → zrel (k89 y0 y1 y2 σ) (k89' (zI y0) (zI y1) (zI y2) (zo σ))) (x2 : Int) (hx2 : zin x2) (x5 : Int) (hx5 : zin x5) (x6 : Int) (hx6 : zin x6) (σ : z_S) (hσ : zR σ) : zrel (zMod_isAbove_b89 N k89 x2 x5 x6 σ) (Mod_isAbove_b89 N k89' (zI x2) (zI x5) (zI x6) (zo σ)) := by
  unfold zMod_isAbove_b89 Mod_isAbove_b89
  refine zr_g (fun g1 => ?_)
  refine zr_ite (zI_le (zI_sub rfl (zl_1)) rfl g1 hx5) ?_ ?_
  · exact zr_of (zMod_isAbove_b123_r N _ hx5 _ hx6 _ hσ) (congr (congr (congrArg (Mod_isAbove_b123 N) rfl) rfl) rfl)
  · exact zr_of (zMod_isAbove_b97_r N k89 k89' hk89 _ hx2 _ hx5 _ hx6 _ hσ) (congr (congr (congr (congrArg (Mod_isAbove_b97 N k89') rfl) rfl) rfl) rfl)
def zMod_isAbove_l89 (N : Nat) : Nat → Int → Int → Int → z_S → Option (Int × z_S)
  | 0 => fun _ _ _ _ => none
  | n + 1 => fun x2 x5 x6 σ => zMod_isAbove_b89 N (zMod_isAbove_l89 N n) x2 x5 x6 σ
theorem zMod_isAbove_l89_r (N : Nat) (n : Nat) : ∀ (x2 : Int) (hx2 : zin x2) (x5 : Int) (hx5 : zin x5) (x6 : Int) (hx6 : zin x6) (σ : z_S) (_ : zR σ), zrel (zMod_isAbove_l89 N n x2 x5 x6 σ) (Mod_isAbove_l89 N n (zI x2) (zI x5) (zI x6) (zo σ)) := by
  induction n with
  | zero => intro x2 hx2 x5 hx5 x6 hx6 σ hσ r s h; cases h
  | succ n ih => intro x2 hx2 x5 hx5 x6 hx6 σ hσ; exact zMod_isAbove_b89_r N _ _ (fun x2 hx2 x5 hx5 x6 hx6 σ hσ => ih x2 hx2 x5 hx5 x6 hx6 σ hσ) x2 hx2 x5 hx5 x6 hx6 σ hσ
def zMod_isAbove_b88 (N : Nat) (s0 : Int) (σ : z_S) : Option (Int × z_S) := if zB s0 then some (s0, σ) else none
theorem zMod_isAbove_b88_r (N : Nat) (s0 : Int) (hs0 : zin s0) (σ : z_S) (hσ : zR σ) : zrel (zMod_isAbove_b88 N s0 σ) (Mod_isAbove_b88 N (zI s0) (zo σ)) := by
  unfold zMod_isAbove_b88 Mod_isAbove_b88
  refine zr_gg (zg_B rfl) (fun g1 => ?_)
  exact zr_some rfl hs0 rfl hσ
def zMod_isAbove_b87 (N : Nat) (σ : z_S) : Option (Int × z_S) := zMod_isAbove_b88 N 0 σ
theorem zMod_isAbove_b87_r (N : Nat) (σ : z_S) (hσ : zR σ) : zrel (zMod_isAbove_b87 N σ) (Mod_isAbove_b87 N (zo σ)) := by
  unfold zMod_isAbove_b87 Mod_isAbove_b87
  exact zr_of (zMod_isAbove_b88_r N _ (by decide) _ hσ) (congr (congrArg (Mod_isAbove_b88 N) (zl_0)) rfl)
def zMod_isAbove_b83 (N : Nat) (σ : z_S) : Option (Int × z_S) := zMod_isAbove_b88 N 1 σ
theorem zMod_isAbove_b83_r (N : Nat) (σ : z_S) (hσ : zR σ) : zrel (zMod_isAbove_b83 N σ) (Mod_isAbove_b83 N (zo σ)) := by
  unfold zMod_isAbove_b83 Mod_isAbove_b83
  exact zr_of (zMod_isAbove_b88_r N _ (by decide) _ hσ) (congr (congrArg (Mod_isAbove_b88 N) (zl_1)) rfl)
def zMod_isAbove_b71 (N : Nat) (x2 : Int) (x4 : Int) (x5 : Int) (x6 : Int) (σ : z_S) : Option (Int × z_S) := if zin (x2 - x5) then if zin (x4 - x6) then if (x2 - x5) ≤ (x4 - x6) then zMod_isAbove_b87 N σ else zMod_isAbove_b83 N σ else none else none
theorem zMod_isAbove_b71_r (N : Nat) (x2 : Int) (hx2 : zin x2) (x4 : Int) (hx4 : zin x4) (x5 : Int) (hx5 : zin x5) (x6 : Int) (hx6 : zin x6) (σ : z_S) (hσ : zR σ) : zrel (zMod_isAbove_b71 N x2 x4 x5 x6 σ) (Mod_isAbove_b71 N (zI x2) (zI x4) (zI x5) (zI x6) (zo σ)) := by
  unfold zMod_isAbove_b71 Mod_isAbove_b71
  refine zr_g (fun g1 => ?_)
  refine zr_g (fun g2 => ?_)
  refine zr_ite (zI_le (zI_sub rfl rfl) (zI_sub rfl rfl) g1 g2) ?_ ?_
  · exact zr_of (zMod_isAbove_b87_r N  _ hσ) (congrArg (Mod_isAbove_b87 N) rfl)
  · exact zr_of (zMod_isAbove_b83_r N  _ hσ) (congrArg (Mod_isAbove_b83 N) rfl)
def zMod_isAbove_b59 (N : Nat) (x2 : Int) (x4 : Int) (x5 : Int) (x6 : Int) (σ : z_S) : Option (Int × z_S) := if zin (x2 - x5) then if zin (x4 - x6) then if (x2 - x5) = (x4 - x6) then zMod_isAbove_l89 N N x2 x5 x6 σ else zMod_isAbove_b71 N x2 x4 x5 x6 σ else none else none
theorem zMod_isAbove_b59_r (N : Nat) (x2 : Int) (hx2 : zin x2) (x4 : Int) (hx4 : zin x4) (x5 : Int) (hx5 : zin x5) (x6 : Int) (hx6 : zin x6) (σ : z_S) (hσ : zR σ) : zrel (zMod_isAbove_b59 N x2 x4 x5 x6 σ) (Mod_isAbove_b59 N (zI x2) (zI x4) (zI x5) (zI x6) (zo σ)) := by
  unfold zMod_isAbove_b59 Mod_isAbove_b59
  refine zr_g (fun g1 => ?_)
  refine zr_g (fun g2 => ?_)
  refine zr_ite (zI_eq (zI_sub rfl rfl) (zI_sub rfl rfl) g1 g2) ?_ ?_
  · exact zr_of (zMod_isAbove_l89_r N N _ hx2 _ hx5 _ hx6 _ hσ) (congr (congr (congr (congrArg (Mod_isAbove_l89 N N) rfl) rfl) rfl) rfl)
  · exact zr_of (zMod_isAbove_b71_r N _ hx2 _ hx4 _ hx5 _ hx6 _ hσ) (congr (congr (congr (congr (congrArg (Mod_isAbove_b71 N) rfl) rfl) rfl) rfl) rfl)
def zMod_isAbove_b53 (N : Nat) (k32 : Int → Int → Int → Int → z_S → Option (Int × z_S)) (x2 : Int) (x4 : Int) (x5 : Int) (x6 : Int) (σ : z_S) : Option (Int × z_S) := if zin (x6 + 1) then k32 x2 x4 x5 (x6 + 1) σ else none
theorem zMod_isAbove_b53_r (N : Nat) (k32 : Int → Int → Int → Int → z_S → Option (Int × z_S)) (k32' : Int32 → Int32 → Int32 → Int32 → g_S → Option (Int32 × g_S)) (hk32 : ∀ (y0 : Int) (_ : zin y0) (y1 : Int) (_ : zin y1) (y2 : Int) (_ : zin y2) (y3 : Int) (_ : zin y3) (σ : z_S), zR σ → zrel (k32 y0 y1 y2 y3 σ) (k32' (zI y0) (zI y1) (zI y2) (zI y3) (zo σ))) (x2 : Int) (hx2 : zin x2) (x4 : Int) (hx4 : zin x4) (x5 : Int) (hx5 : zin x5) (x6 : Int) (hx6 : zin x6) (σ : z_S) (hσ : zR σ) : zrel (zMod_isAbove_b53 N k32 x2 x4 x5 x6 σ) (Mod_isAbove_b53 N k32' (zI x2) (zI x4) (zI x5) (zI x6) (zo σ)) := by
  unfold zMod_isAbove_b53 Mod_isAbove_b53
  refine zr_g (fun g1 => ?_)
  exact zr_of (hk32 _ hx2 _ hx4 _ hx5 _ g1 _ hσ) (congr (congr (congr (congr (congrArg (k32') rfl) rfl) rfl) (zI_add rfl (zl_1))) rfl)
def zMod_isAbove_b41 (N : Nat) (k32 : Int → Int → Int → Int → z_S → Option (Int × z_S)) (x2 : Int) (x4 : Int) (x5 : Int) (x6 : Int) (σ : z_S) : Option (Int × z_S) := if zIn x6 200 then if (σ.2 1 (x6).toNat) = 48 then zMod_isAbove_b53 N k32 x2 x4 x5 x6 σ else zMod_isAbove_b59 N x2 x4 x5 x6 σ else none
theorem zMod_isAbove_b41_r (N : Nat) (k32 : Int → Int → Int → Int → z_S → Option (Int × z_S)) (k32' : Int32 → Int32 → Int32 → Int32 → g_S → Option (Int32 × g_S)) (hk32 : ∀ (y0 : Int) (_ : zin y0) (y1 : Int) (_ : zin y1) (y2 : Int) (_ : zin y2) (y3 : Int) (_ : zin y3) (σ : z_S), zR σ → zrel (k32 y0 y1 y2 y3 σ) (k32' (zI y0) (zI y1) (zI y2) (zI y3) (zo σ))) (x2 : Int) (hx2 : zin x2) (x4 : Int) (hx4 : zin x4) (x5 : Int) (hx5 : zin x5) (x6 : Int) (hx6 : zin x6) (σ : z_S) (hσ : zR σ) : zrel (zMod_isAbove_b41 N k32 x2 x4 x5 x6 σ) (Mod_isAbove_b41 N k32' (zI x2) (zI x4) (zI x5) (zI x6) (zo σ)) := by
  unfold zMod_isAbove_b41 Mod_isAbove_b41
  refine zr_gg (zg_in rfl hx6) (fun g1 => ?_)
  refine zr_ite (zI_eq (zo_get (j := 1) rfl rfl hx6) (zl_48) (hσ.2 1 _) (by decide)) ?_ ?_
  · exact zr_of (zMod_isAbove_b53_r N k32 k32' hk32 _ hx2 _ hx4 _ hx5 _ hx6 _ hσ) (congr (congr (congr (congr (congrArg (Mod_isAbove_b53 N k32') rfl) rfl) rfl) rfl) rfl)
  · exact zr_of (zMod_isAbove_b59_r N _ hx2 _ hx4 _ hx5 _ hx6 _ hσ) (congr (congr (congr (congr (congrArg (Mod_isAbove_b59 N) rfl) rfl) rfl) rfl) rfl)
def zMod_isAbove_b32 (N : Nat) (k32 : Int → Int → Int → Int → z_S → Option (Int × z_S)) (x2 : Int) (x4 : Int) (x5 : Int) (x6 : Int) (σ : z_S) : Option (Int × z_S) := if zin (x4 - 1) then if (x4 - 1) ≤ x6 then zMod_isAbove_b59 N x2 x4 x5 x6 σ else zMod_isAbove_b41 N k32 x2 x4 x5 x6 σ else none
theorem zMod_isAbove_b32_r (N : Nat) (k32 : Int → Int → Int → Int → z_S → Option (Int × z_S)) (k32' : Int32 → Int32 → Int32 → Int32 → g_S → Option (Int32 × g_S)) (hk32 : ∀ (y0 : Int) (_ : zin y0) (y1 : Int) (_ : zin y1) (y2 : Int) (_ : zin y2) (y3 : Int) (_ : zin y3) (σ : z_S), zR σ → zrel (k32 y0 y1 y2 y3 σ) (k32' (zI y0) (zI y1) (zI y2) (zI y3) (zo σ))) (x2 : Int) (hx2 : zin x2) (x4 : Int) (hx4 : zin x4) (x5 : Int) (hx5 : zin x5) (x6 : Int) (hx6 : zin x6) (σ : z_S) (hσ : zR σ) : zrel (zMod_isAbove_b32 N k32 x2 x4 x5 x6 σ) (Mod_isAbove_b32 N k32' (zI x2) (zI x4) (zI x5) (zI x6) (zo σ)) := by
  unfold zMod_isAbove_b32 Mod_isAbove_b32
  refine zr_g (fun g1 => ?_)
  refine zr_ite (zI_le (zI_sub rfl (zl_1)) rfl g1 hx6) ?_ ?_
  · exact zr_of (zMod_isAbove_b59_r N _ hx2 _ hx4 _ hx5 _ hx6 _ hσ) (congr (congr (congr (congr (congrArg (Mod_isAbove_b59 N) rfl) rfl) rfl) rfl) rfl)
  · exact zr_of (zMod_isAbove_b41_r N k32 k32' hk32 _ hx2 _ hx4 _ hx5 _ hx6 _ hσ) (congr (congr (congr (congr (congrArg (Mod_isAbove_b41 N k32') rfl) rfl) rfl) rfl) rfl)
def zMod_isAbove_l32 (N : Nat) : Nat → Int → Int → Int → Int → z_S → Option (Int × z_S)
  | 0 => fun _ _ _ _ _ => none
  | n + 1 => fun x2 x4 x5 x6 σ => zMod_isAbove_b32 N (zMod_isAbove_l32 N n) x2 x4 x5 x6 σ
theorem zMod_isAbove_l32_r (N : Nat) (n : Nat) : ∀ (x2 : Int) (hx2 : zin x2) (x4 : Int) (hx4 : zin x4) (x5 : Int) (hx5 : zin x5) (x6 : Int) (hx6 : zin x6) (σ : z_S) (_ : zR σ), zrel (zMod_isAbove_l32 N n x2 x4 x5 x6 σ) (Mod_isAbove_l32 N n (zI x2) (zI x4) (zI x5) (zI x6) (zo σ)) := by
  induction n with
  | zero => intro x2 hx2 x4 hx4 x5 hx5 x6 hx6 σ hσ r s h; cases h
  | succ n ih => intro x2 hx2 x4 hx4 x5 hx5 x6 hx6 σ hσ; exact zMod_isAbove_b32_r N _ _ (fun x2 hx2 x4 hx4 x5 hx5 x6 hx6 σ hσ => ih x2 hx2 x4 hx4 x5 hx5 x6 hx6 σ hσ) x2 hx2 x4 hx4 x5 hx5 x6 hx6 σ hσ
def zMod_isAbove_b26 (N : Nat) (k6 : Int → Int → Int → Int → z_S → Option (Int × z_S)) (x2 : Int) (x4 : Int) (x5 : Int) (x6 : Int) (σ : z_S) : Option (Int × z_S) := if zin (x5 + 1) then k6 x2 x4 (x5 + 1) x6 σ else none
theorem zMod_isAbove_b26_r (N : Nat) (k6 : Int → Int → Int → Int → z_S → Option (Int × z_S)) (k6' : Int32 → Int32 → Int32 → Int32 → g_S → Option (Int32 × g_S)) (hk6 : ∀ (y0 : Int) (_ : zin y0) (y1 : Int) (_ : zin y1) (y2 : Int) (_ : zin y2) (y3 : Int) (_ : zin y3) (σ : z_S), zR σ → zrel (k6 y0 y1 y2 y3 σ) (k6' (zI y0) (zI y1) (zI y2) (zI y3) (zo σ))) (x2 : Int) (hx2 : zin x2) (x4 : Int) (hx4 : zin x4) (x5 : Int) (hx5 : zin x5) (x6 : Int) (hx6 : zin x6) (σ : z_S) (hσ : zR σ) : zrel (zMod_isAbove_b26 N k6 x2 x4 x5 x6 σ) (Mod_isAbove_b26 N k6' (zI x2) (zI x4) (zI x5) (zI x6) (zo σ)) := by
  unfold zMod_isAbove_b26 Mod_isAbove_b26
  refine zr_g (fun g1 => ?_)
  exact zr_of (hk6 _ hx2 _ hx4 _ g1 _ hx6 _ hσ) (congr (congr (congr (congr (congrArg (k6') rfl) rfl) (zI_add rfl (zl_1))) rfl) rfl)
def zMod_isAbove_b14 (N : Nat) (k6 : Int → Int → Int → Int → z_S → Option (Int × z_S)) (x2 : Int) (x4 : Int) (x5 : Int) (x6 : Int) (σ : z_S) : Option (Int × z_S) := if zIn x5 200 then if (σ.2 1 (x5).toNat) = 48 then zMod_isAbove_b26 N k6 x2 x4 x5 x6 σ else zMod_isAbove_l32 N N x2 x4 x5 x6 σ else none
theorem zMod_isAbove_b14_r (N : Nat) (k6 : Int → Int → Int → Int → z_S → Option (Int × z_S)) (k6' : Int32 → Int32 → Int32 → Int32 → g_S → Option (Int32 × g_S)) (hk6 : ∀ (y0 : Int) (_ : zin y0) (y1 : Int) (_ : zin y1) (y2 : Int) (_ : zin y2) (y3 : Int) (_ : zin y3) (σ : z_S), zR σ → zrel (k6 y0 y1 y2 y3 σ) (k6' (zI y0) (zI y1) (zI y2) (zI y3) (zo σ))) (x2 : Int) (hx2 : zin x2) (x4 : Int) (hx4 : zin x4) (x5 : Int) (hx5 : zin x5) (x6 : Int) (hx6 : zin x6) (σ : z_S) (hσ : zR σ) : zrel (zMod_isAbove_b14 N k6 x2 x4 x5 x6 σ) (Mod_isAbove_b14 N k6' (zI x2) (zI x4) (zI x5) (zI x6) (zo σ)) := by
  unfold zMod_isAbove_b14 Mod_isAbove_b14
  refine zr_gg (zg_in rfl hx5) (fun g1 => ?_)
  refine zr_ite (zI_eq (zo_get (j := 1) rfl rfl hx5) (zl_48) (hσ.2 1 _) (by decide)) ?_ ?_
  · exact zr_of (zMod_isAbove_b26_r N k6 k6' hk6 _ hx2 _ hx4 _ hx5 _ hx6 _ hσ) (congr (congr (congr (congr (congrArg (Mod_isAbove_b26 N k6') rfl) rfl) rfl) rfl) rfl)
  · exact zr_of (zMod_isAbove_l32_r N N _ hx2 _ hx4 _ hx5 _ hx6 _ hσ) (congr (congr (congr (congr (congrArg (Mod_isAbove_l32 N N) rfl) rfl) rfl) rfl) rfl)
def zMod_isAbove_b6 (N : Nat) (k6 : Int → Int → Int → Int → z_S → Option (Int × z_S)) (x2 : Int) (x4 : Int) (x5 : Int) (x6 : Int) (σ : z_S) : Option (Int × z_S) := if zin (x2 - 1) then if (x2 - 1) ≤ x5 then zMod_isAbove_l32 N N x2 x4 x5 x6 σ else zMod_isAbove_b14 N k6 x2 x4 x5 x6 σ else none
theorem zMod_isAbove_b6_r (N : Nat) (k6 : Int → Int → Int → Int → z_S → Option (Int × z_S)) (k6' : Int32 → Int32 → Int32 → Int32 → g_S → Option (Int32 × g_S)) (hk6 : ∀ (y0 : Int) (_ : zin y0) (y1 : Int) (_ : zin y1) (y2 : Int) (_ : zin y2) (y3 : Int) (_ : zin y3) (σ : z_S), zR σ → zrel (k6 y0 y1 y2 y3 σ) (k6' (zI y0) (zI y1) (zI y2) (zI y3) (zo σ))) (x2 : Int) (hx2 : zin x2) (x4 : Int) (hx4 : zin x4) (x5 : Int) (hx5 : zin x5) (x6 : Int) (hx6 : zin x6) (σ : z_S) (hσ : zR σ) : zrel (zMod_isAbove_b6 N k6 x2 x4 x5 x6 σ) (Mod_isAbove_b6 N k6' (zI x2) (zI x4) (zI x5) (zI x6) (zo σ)) := by
  unfold zMod_isAbove_b6 Mod_isAbove_b6
  refine zr_g (fun g1 => ?_)
  refine zr_ite (zI_le (zI_sub rfl (zl_1)) rfl g1 hx5) ?_ ?_
  · exact zr_of (zMod_isAbove_l32_r N N _ hx2 _ hx4 _ hx5 _ hx6 _ hσ) (congr (congr (congr (congr (congrArg (Mod_isAbove_l32 N N) rfl) rfl) rfl) rfl) rfl)
  · exact zr_of (zMod_isAbove_b14_r N k6 k6' hk6 _ hx2 _ hx4 _ hx5 _ hx6 _ hσ) (congr (congr (congr (congr (congrArg (Mod_isAbove_b14 N k6') rfl) rfl) rfl) rfl) rfl)
def zMod_isAbove_l6 (N : Nat) : Nat → Int → Int → Int → Int → z_S → Option (Int × z_S)
  | 0 => fun _ _ _ _ _ => none
  | n + 1 => fun x2 x4 x5 x6 σ => zMod_isAbove_b6 N (zMod_isAbove_l6 N n) x2 x4 x5 x6 σ
theorem zMod_isAbove_l6_r (N : Nat) (n : Nat) : ∀ (x2 : Int) (hx2 : zin x2) (x4 : Int) (hx4 : zin x4) (x5 : Int) (hx5 : zin x5) (x6 : Int) (hx6 : zin x6) (σ : z_S) (_ : zR σ), zrel (zMod_isAbove_l6 N n x2 x4 x5 x6 σ) (Mod_isAbove_l6 N n (zI x2) (zI x4) (zI x5) (zI x6) (zo σ)) := by
  induction n with
  | zero => intro x2 hx2 x4 hx4 x5 hx5 x6 hx6 σ hσ r s h; cases h
  | succ n ih => intro x2 hx2 x4 hx4 x5 hx5 x6 hx6 σ hσ; exact zMod_isAbove_b6_r N _ _ (fun x2 hx2 x4 hx4 x5 hx5 x6 hx6 σ hσ => ih x2 hx2 x4 hx4 x5 hx5 x6 hx6 σ hσ) x2 hx2 x4 hx4 x5 hx5 x6 hx6 σ hσ
def zMod_isAbove_b0 (N : Nat) (x1 : Int) (x2 : Int) (x3 : Int) (x4 : Int) (σ : z_S) : Option (Int × z_S) := zMod_isAbove_l6 N N x2 x4 x1 x3 σ
theorem zMod_isAbove_b0_r (N : Nat) (x1 : Int) (hx1 : zin x1) (x2 : Int) (hx2 : zin x2) (x3 : Int) (hx3 : zin x3) (x4 : Int) (hx4 : zin x4) (σ : z_S) (hσ : zR σ) : zrel (zMod_isAbove_b0 N x1 x2 x3 x4 σ) (Mod_isAbove_b0 N (zI x1) (zI x2) (zI x3) (zI x4) (zo σ)) := by
  unfold zMod_isAbove_b0 Mod_isAbove_b0
  exact zr_of (zMod_isAbove_l6_r N N _ hx2 _ hx4 _ hx1 _ hx3 _ hσ) (congr (congr (congr (congr (congrArg (Mod_isAbove_l6 N N) rfl) rfl) rfl) rfl) rfl)
def zMod_isAbove (N : Nat) (x1 : Int) (x2 : Int) (x3 : Int) (x4 : Int) (σ : z_S) : Option (Int × z_S) := zMod_isAbove_b0 N x1 x2 x3 x4 σ
theorem zMod_isAbove_r (N : Nat) (x1 : Int) (hx1 : zin x1) (x2 : Int) (hx2 : zin x2) (x3 : Int) (hx3 : zin x3) (x4 : Int) (hx4 : zin x4) (σ : z_S) (hσ : zR σ) : zrel (zMod_isAbove N x1 x2 x3 x4 σ) (Mod_isAbove N (zI x1) (zI x2) (zI x3) (zI x4) (zo σ)) := by
  unfold zMod_isAbove Mod_isAbove
  exact zr_of (zMod_isAbove_b0_r N _ hx1 _ hx2 _ hx3 _ hx4 _ hσ) (congr (congr (congr (congr (congrArg (Mod_isAbove_b0 N) rfl) rfl) rfl) rfl) rfl)
def zMod_number_b88 (N : Nat) (x1 : Int) (σ : z_S) : Option (Int × z_S) := some (x1, σ)
theorem zMod_number_b88_r (N : Nat) (x1 : Int) (hx1 : zin x1) (σ : z_S) (hσ : zR σ) : zrel (zMod_number_b88 N x1 σ) (Mod_number_b88 N (zI x1) (zo σ)) := by
  unfold zMod_number_b88 Mod_number_b88
  exact zr_some rfl hx1 rfl hσ
def zMod_number_b74 (N : Nat) (k39 : Int → z_S → Option (Int × z_S)) (s0 : Int) (σ : z_S) : Option (Int × z_S) := if zin ((σ.1 11) + 1) then k39 s0 (zF σ 11 ((σ.1 11) + 1)) else none
theorem zMod_number_b74_r (N : Nat) (k39 : Int → z_S → Option (Int × z_S)) (k39' : Int32 → g_S → Option (Int32 × g_S)) (hk39 : ∀ (y0 : Int) (_ : zin y0) (σ : z_S), zR σ → zrel (k39 y0 σ) (k39' (zI y0) (zo σ))) (s0 : Int) (hs0 : zin s0) (σ : z_S) (hσ : zR σ) : zrel (zMod_number_b74 N k39 s0 σ) (Mod_number_b74 N k39' (zI s0) (zo σ)) := by
  unfold zMod_number_b74 Mod_number_b74
  refine zr_g (fun g1 => ?_)
  exact zr_of (hk39 _ hs0 _ (zR_F (k := 11) hσ g1)) (congr (congrArg (k39') rfl) (zo_F (k := 11) rfl (zI_add (zo_fld rfl 11) (zl_1))))
def zMod_number_b61 (N : Nat) (k39 : Int → z_S → Option (Int × z_S)) (x1 : Int) (σ : z_S) : Option (Int × z_S) := (zMod_see N 0 σ).bind fun q67 => if zin (10 * x1) then if zin ((10 * x1) + q67.1) then if zin (((10 * x1) + q67.1) - 48) then zMod_number_b74 N k39 (((10 * x1) + q67.1) - 48) q67.2 else none else none else none
theorem zMod_number_b61_r (N : Nat) (k39 : Int → z_S → Option (Int × z_S)) (k39' : Int32 → g_S → Option (Int32 × g_S)) (hk39 : ∀ (y0 : Int) (_ : zin y0) (σ : z_S), zR σ → zrel (k39 y0 σ) (k39' (zI y0) (zo σ))) (x1 : Int) (hx1 : zin x1) (σ : z_S) (hσ : zR σ) : zrel (zMod_number_b61 N k39 x1 σ) (Mod_number_b61 N k39' (zI x1) (zo σ)) := by
  unfold zMod_number_b61 Mod_number_b61
  refine zr_bind (zr_of (zMod_see_r N _ (by decide) _ hσ) (congr (congrArg (Mod_see N) (zl_0)) rfl)) (fun r67 s67σ hr67 hs67 => ?_)
  dsimp only
  refine zr_g (fun g1 => ?_)
  refine zr_g (fun g2 => ?_)
  refine zr_g (fun g3 => ?_)
  exact zr_of (zMod_number_b74_r N k39 k39' hk39 _ g3 _ hs67) (congr (congrArg (Mod_number_b74 N k39') (zI_sub (zI_add (zI_mul (zl_10) rfl) rfl) (zl_48))) rfl)
def zMod_number_b57 (N : Nat) (k39 : Int → z_S → Option (Int × z_S)) (x1 : Int) (σ : z_S) : Option (Int × z_S) := zMod_number_b74 N k39 x1 σ
theorem zMod_number_b57_r (N : Nat) (k39 : Int → z_S → Option (Int × z_S)) (k39' : Int32 → g_S → Option (Int32 × g_S)) (hk39 : ∀ (y0 : Int) (_ : zin y0) (σ : z_S), zR σ → zrel (k39 y0 σ) (k39' (zI y0) (zo σ))) (x1 : Int) (hx1 : zin x1) (σ : z_S) (hσ : zR σ) : zrel (zMod_number_b57 N k39 x1 σ) (Mod_number_b57 N k39' (zI x1) (zo σ)) := by
  unfold zMod_number_b57 Mod_number_b57
  exact zr_of (zMod_number_b74_r N k39 k39' hk39 _ hx1 _ hσ) (congr (congrArg (Mod_number_b74 N k39') rfl) rfl)
def zMod_number_b50 (N : Nat) (k39 : Int → z_S → Option (Int × z_S)) (x1 : Int) (σ : z_S) : Option (Int × z_S) := if x1 ≤ 10000 then zMod_number_b61 N k39 x1 σ else zMod_number_b57 N k39 x1 σ
theorem zMod_number_b50_r (N : Nat) (k39 : Int → z_S → Option (Int × z_S)) (k39' : Int32 → g_S → Option (Int32 × g_S)) (hk39 : ∀ (y0 : Int) (_ : zin y0) (σ : z_S), zR σ → zrel (k39 y0 σ) (k39' (zI y0) (zo σ))) (x1 : Int) (hx1 : zin x1) (σ : z_S) (hσ : zR σ) : zrel (zMod_number_b50 N k39 x1 σ) (Mod_number_b50 N k39' (zI x1) (zo σ)) := by
  unfold zMod_number_b50 Mod_number_b50
  refine zr_ite (zI_le rfl (zl_10000) hx1 (by decide)) ?_ ?_
  · exact zr_of (zMod_number_b61_r N k39 k39' hk39 _ hx1 _ hσ) (congr (congrArg (Mod_number_b61 N k39') rfl) rfl)
  · exact zr_of (zMod_number_b57_r N k39 k39' hk39 _ hx1 _ hσ) (congr (congrArg (Mod_number_b57 N k39') rfl) rfl)
def zMod_number_b39 (N : Nat) (k39 : Int → z_S → Option (Int × z_S)) (x1 : Int) (σ : z_S) : Option (Int × z_S) := (zMod_see N 0 σ).bind fun q41 => (zMod_isDigit N q41.1 q41.2).bind fun q44 => if q44.1 = 0 then zMod_number_b88 N x1 q44.2 else zMod_number_b50 N k39 x1 q44.2
theorem zMod_number_b39_r (N : Nat) (k39 : Int → z_S → Option (Int × z_S)) (k39' : Int32 → g_S → Option (Int32 × g_S)) (hk39 : ∀ (y0 : Int) (_ : zin y0) (σ : z_S), zR σ → zrel (k39 y0 σ) (k39' (zI y0) (zo σ))) (x1 : Int) (hx1 : zin x1) (σ : z_S) (hσ : zR σ) : zrel (zMod_number_b39 N k39 x1 σ) (Mod_number_b39 N k39' (zI x1) (zo σ)) := by
  unfold zMod_number_b39 Mod_number_b39
  refine zr_bind (zr_of (zMod_see_r N _ (by decide) _ hσ) (congr (congrArg (Mod_see N) (zl_0)) rfl)) (fun r41 s41σ hr41 hs41 => ?_)
  dsimp only
  refine zr_bind (zr_of (zMod_isDigit_r N _ hr41 _ hs41) (congr (congrArg (Mod_isDigit N) rfl) rfl)) (fun r44 s44σ hr44 hs44 => ?_)
  dsimp only
  refine zr_ite (zI_eq rfl (zl_0) hr44 (by decide)) ?_ ?_
  · exact zr_of (zMod_number_b88_r N _ hx1 _ hs44) (congr (congrArg (Mod_number_b88 N) rfl) rfl)
  · exact zr_of (zMod_number_b50_r N k39 k39' hk39 _ hx1 _ hs44) (congr (congrArg (Mod_number_b50 N k39') rfl) rfl)
def zMod_number_l39 (N : Nat) : Nat → Int → z_S → Option (Int × z_S)
  | 0 => fun _ _ => none
  | n + 1 => fun x1 σ => zMod_number_b39 N (zMod_number_l39 N n) x1 σ
theorem zMod_number_l39_r (N : Nat) (n : Nat) : ∀ (x1 : Int) (hx1 : zin x1) (σ : z_S) (_ : zR σ), zrel (zMod_number_l39 N n x1 σ) (Mod_number_l39 N n (zI x1) (zo σ)) := by
  induction n with
  | zero => intro x1 hx1 σ hσ r s h; cases h
  | succ n ih => intro x1 hx1 σ hσ; exact zMod_number_b39_r N _ _ (fun x1 hx1 σ hσ => ih x1 hx1 σ hσ) x1 hx1 σ hσ
def zMod_number_b36 (N : Nat) (x1 : Int) (s1 : Int) (σ : z_S) : Option (Int × z_S) := (zMod_fail N s1 σ).bind fun q36 => zMod_number_l39 N N x1 q36.2
theorem zMod_number_b36_r (N : Nat) (x1 : Int) (hx1 : zin x1) (s1 : Int) (hs1 : zin s1) (σ : z_S) (hσ : zR σ) : zrel (zMod_number_b36 N x1 s1 σ) (Mod_number_b36 N (zI x1) (zI s1) (zo σ)) := by
  unfold zMod_number_b36 Mod_number_b36
  refine zr_bind (zr_of (zMod_fail_r N _ hs1 _ hσ) (congr (congrArg (Mod_fail N) rfl) rfl)) (fun r36 s36σ hr36 hs36 => ?_)
  dsimp only
  exact zr_of (zMod_number_l39_r N N _ hx1 _ hs36) (congr (congrArg (Mod_number_l39 N N) rfl) rfl)
def zMod_number_b32 (N : Nat) (x1 : Int) (σ : z_S) : Option (Int × z_S) := zMod_number_b36 N x1 (σ.1 2) σ
theorem zMod_number_b32_r (N : Nat) (x1 : Int) (hx1 : zin x1) (σ : z_S) (hσ : zR σ) : zrel (zMod_number_b32 N x1 σ) (Mod_number_b32 N (zI x1) (zo σ)) := by
  unfold zMod_number_b32 Mod_number_b32
  exact zr_of (zMod_number_b36_r N _ hx1 _ (hσ.1 2) _ hσ) (congr (congr (congrArg (Mod_number_b36 N) rfl) (zo_fld rfl 2)) rfl)
def zMod_number_b25 (N : Nat) (x1 : Int) (σ : z_S) : Option (Int × z_S) := zMod_number_b36 N x1 (σ.1 11) σ
theorem zMod_number_b25_r (N : Nat) (x1 : Int) (hx1 : zin x1) (σ : z_S) (hσ : zR σ) : zrel (zMod_number_b25 N x1 σ) (Mod_number_b25 N (zI x1) (zo σ)) := by
  unfold zMod_number_b25 Mod_number_b25
  exact zr_of (zMod_number_b36_r N _ hx1 _ (hσ.1 11) _ hσ) (congr (congr (congrArg (Mod_number_b36 N) rfl) (zo_fld rfl 11)) rfl)
def zMod_number_b13 (N : Nat) (x1 : Int) (σ : z_S) : Option (Int × z_S) := if (σ.1 2) ≤ (σ.1 11) then zMod_number_b32 N x1 σ else zMod_number_b25 N x1 σ
theorem zMod_number_b13_r (N : Nat) (x1 : Int) (hx1 : zin x1) (σ : z_S) (hσ : zR σ) : zrel (zMod_number_b13 N x1 σ) (Mod_number_b13 N (zI x1) (zo σ)) := by
  unfold zMod_number_b13 Mod_number_b13
  refine zr_ite (zI_le (zo_fld rfl 2) (zo_fld rfl 11) (hσ.1 2) (hσ.1 11)) ?_ ?_
  · exact zr_of (zMod_number_b32_r N _ hx1 _ hσ) (congr (congrArg (Mod_number_b32 N) rfl) rfl)
  · exact zr_of (zMod_number_b25_r N _ hx1 _ hσ) (congr (congrArg (Mod_number_b25 N) rfl) rfl)
def zMod_number_b0 (N : Nat) (σ : z_S) : Option (Int × z_S) := (zMod_see N 0 σ).bind fun q4 => (zMod_isDigit N q4.1 q4.2).bind fun q7 => if q7.1 = 0 then zMod_number_b13 N 0 q7.2 else zMod_number_l39 N N 0 q7.2
theorem zMod_number_b0_r (N : Nat) (σ : z_S) (hσ : zR σ) : zrel (zMod_number_b0 N σ) (Mod_number_b0 N (zo σ)) := by
  unfold zMod_number_b0 Mod_number_b0
  refine zr_bind (zr_of (zMod_see_r N _ (by decide) _ hσ) (congr (congrArg (Mod_see N) (zl_0)) rfl)) (fun r4 s4σ hr4 hs4 => ?_)
  dsimp only
  refine zr_bind (zr_of (zMod_isDigit_r N _ hr4 _ hs4) (congr (congrArg (Mod_isDigit N) rfl) rfl)) (fun r7 s7σ hr7 hs7 => ?_)
  dsimp only
  refine zr_ite (zI_eq rfl (zl_0) hr7 (by decide)) ?_ ?_
  · exact zr_of (zMod_number_b13_r N _ (by decide) _ hs7) (congr (congrArg (Mod_number_b13 N) (zl_0)) rfl)
  · exact zr_of (zMod_number_l39_r N N _ (by decide) _ hs7) (congr (congrArg (Mod_number_l39 N N) (zl_0)) rfl)
def zMod_number (N : Nat) (σ : z_S) : Option (Int × z_S) := zMod_number_b0 N σ
theorem zMod_number_r (N : Nat) (σ : z_S) (hσ : zR σ) : zrel (zMod_number N σ) (Mod_number N (zo σ)) := by
  unfold zMod_number Mod_number
  exact zr_of (zMod_number_b0_r N  _ hσ) (congrArg (Mod_number_b0 N) rfl)
