def zMod_thrown_b0 (N : Nat) (σ : z_S) : Option (Int × z_S) := some ((σ.1 0), σ)
theorem zMod_thrown_b0_r (N : Nat) (σ : z_S) (hσ : zR σ) : zrel (zMod_thrown_b0 N σ) (Mod_thrown_b0 N (zo σ)) := by
  unfold zMod_thrown_b0 Mod_thrown_b0
  exact zr_some (zo_fld rfl 0) (hσ.1 0) rfl hσ
def zMod_thrown (N : Nat) (σ : z_S) : Option (Int × z_S) := zMod_thrown_b0 N σ
theorem zMod_thrown_r (N : Nat) (σ : z_S) (hσ : zR σ) : zrel (zMod_thrown N σ) (Mod_thrown N (zo σ)) := by
  unfold zMod_thrown Mod_thrown
  exact zr_of (zMod_thrown_b0_r N  _ hσ) (congrArg (Mod_thrown_b0 N) rfl)
def zMod_in_b15 (N : Nat) (s0 : Int) (σ : z_S) : Option (Int × z_S) := if zB s0 then some (s0, σ) else none
theorem zMod_in_b15_r (N : Nat) (s0 : Int) (hs0 : zin s0) (σ : z_S) (hσ : zR σ) : zrel (zMod_in_b15 N s0 σ) (Mod_in_b15 N (zI s0) (zo σ)) := by
  unfold zMod_in_b15 Mod_in_b15
  refine zr_gg (zg_B rfl) (fun g1 => ?_)
  exact zr_some rfl hs0 rfl hσ
def zMod_in_b14 (N : Nat) (σ : z_S) : Option (Int × z_S) := zMod_in_b15 N 0 σ
theorem zMod_in_b14_r (N : Nat) (σ : z_S) (hσ : zR σ) : zrel (zMod_in_b14 N σ) (Mod_in_b14 N (zo σ)) := by
  unfold zMod_in_b14 Mod_in_b14
  exact zr_of (zMod_in_b15_r N _ (by decide) _ hσ) (congr (congrArg (Mod_in_b15 N) (zl_0)) rfl)
def zMod_in_b10 (N : Nat) (σ : z_S) : Option (Int × z_S) := zMod_in_b15 N 1 σ
theorem zMod_in_b10_r (N : Nat) (σ : z_S) (hσ : zR σ) : zrel (zMod_in_b10 N σ) (Mod_in_b10 N (zo σ)) := by
  unfold zMod_in_b10 Mod_in_b10
  exact zr_of (zMod_in_b15_r N _ (by decide) _ hσ) (congr (congrArg (Mod_in_b15 N) (zl_1)) rfl)
def zMod_in_b5 (N : Nat) (x0 : Int) (x2 : Int) (σ : z_S) : Option (Int × z_S) := if x2 < x0 then zMod_in_b14 N σ else zMod_in_b10 N σ
theorem zMod_in_b5_r (N : Nat) (x0 : Int) (hx0 : zin x0) (x2 : Int) (hx2 : zin x2) (σ : z_S) (hσ : zR σ) : zrel (zMod_in_b5 N x0 x2 σ) (Mod_in_b5 N (zI x0) (zI x2) (zo σ)) := by
  unfold zMod_in_b5 Mod_in_b5
  refine zr_ite (zI_lt rfl rfl hx2 hx0) ?_ ?_
  · exact zr_of (zMod_in_b14_r N  _ hσ) (congrArg (Mod_in_b14 N) rfl)
  · exact zr_of (zMod_in_b10_r N  _ hσ) (congrArg (Mod_in_b10 N) rfl)
def zMod_in_b0 (N : Nat) (x0 : Int) (x1 : Int) (x2 : Int) (σ : z_S) : Option (Int × z_S) := if x0 < x1 then zMod_in_b14 N σ else zMod_in_b5 N x0 x2 σ
theorem zMod_in_b0_r (N : Nat) (x0 : Int) (hx0 : zin x0) (x1 : Int) (hx1 : zin x1) (x2 : Int) (hx2 : zin x2) (σ : z_S) (hσ : zR σ) : zrel (zMod_in_b0 N x0 x1 x2 σ) (Mod_in_b0 N (zI x0) (zI x1) (zI x2) (zo σ)) := by
  unfold zMod_in_b0 Mod_in_b0
  refine zr_ite (zI_lt rfl rfl hx0 hx1) ?_ ?_
  · exact zr_of (zMod_in_b14_r N  _ hσ) (congrArg (Mod_in_b14 N) rfl)
  · exact zr_of (zMod_in_b5_r N _ hx0 _ hx2 _ hσ) (congr (congr (congrArg (Mod_in_b5 N) rfl) rfl) rfl)
def zMod_in (N : Nat) (x0 : Int) (x1 : Int) (x2 : Int) (σ : z_S) : Option (Int × z_S) := zMod_in_b0 N x0 x1 x2 σ
theorem zMod_in_r (N : Nat) (x0 : Int) (hx0 : zin x0) (x1 : Int) (hx1 : zin x1) (x2 : Int) (hx2 : zin x2) (σ : z_S) (hσ : zR σ) : zrel (zMod_in N x0 x1 x2 σ) (Mod_in N (zI x0) (zI x1) (zI x2) (zo σ)) := by
  unfold zMod_in Mod_in
  exact zr_of (zMod_in_b0_r N _ hx0 _ hx1 _ hx2 _ hσ) (congr (congr (congr (congrArg (Mod_in_b0 N) rfl) rfl) rfl) rfl)
def zMod_put_b90 (N : Nat) (σ : z_S) : Option (Int × z_S) := some ((σ.1 1), σ)
theorem zMod_put_b90_r (N : Nat) (σ : z_S) (hσ : zR σ) : zrel (zMod_put_b90 N σ) (Mod_put_b90 N (zo σ)) := by
  unfold zMod_put_b90 Mod_put_b90
  exact zr_some (zo_fld rfl 1) (hσ.1 1) rfl hσ
def zMod_put_b53 (N : Nat) (k48 : Int64 → Int → z_S → Option (Int × z_S)) (x1 : Int64) (x4 : Int) (σ : z_S) : Option (Int × z_S) := if zIn (σ.1 1) 600 then if zin (x4 + (-1)) then if zin (16 * x4) then if zin ((σ.1 1) + 1) then k48 x1 (x4 + (-1)) (zF (zA σ 0 ((σ.1 1)).toNat (zlm x1 (16 * x4))) 1 ((σ.1 1) + 1)) else none else none else none else none
theorem zMod_put_b53_r (N : Nat) (k48 : Int64 → Int → z_S → Option (Int × z_S)) (k48' : Int64 → Int32 → g_S → Option (Int32 × g_S)) (hk48 : ∀ (y0 : Int64) (y1 : Int) (_ : zin y1) (σ : z_S), zR σ → zrel (k48 y0 y1 σ) (k48' y0 (zI y1) (zo σ))) (x1 : Int64) (x4 : Int) (hx4 : zin x4) (σ : z_S) (hσ : zR σ) : zrel (zMod_put_b53 N k48 x1 x4 σ) (Mod_put_b53 N k48' x1 (zI x4) (zo σ)) := by
  unfold zMod_put_b53 Mod_put_b53
  refine zr_gg (zg_in (zo_fld rfl 1) (hσ.1 1)) (fun g1 => ?_)
  refine zr_g (fun g2 => ?_)
  refine zr_g (fun g3 => ?_)
  refine zr_g (fun g4 => ?_)
  exact zr_of (hk48 x1 _ g2 _ (zR_F (k := 1) (zR_A (a := 0) (i := _) hσ (zin_toInt _)) g4)) (congr (congr (congrArg (k48') (rfl : x1 = x1)) (zI_add rfl (zl_m1))) (zo_F (k := 1) (zo_A (a := 0) rfl (zo_fld rfl 1) (hσ.1 1) (zI_lm (x := x1) (zI_mul (zl_16) rfl))) (zI_add (zo_fld rfl 1) (zl_1))))
def zMod_put_b48 (N : Nat) (k48 : Int64 → Int → z_S → Option (Int × z_S)) (x1 : Int64) (x4 : Int) (σ : z_S) : Option (Int × z_S) := if x4 < 0 then zMod_put_b90 N σ else zMod_put_b53 N k48 x1 x4 σ
theorem zMod_put_b48_r (N : Nat) (k48 : Int64 → Int → z_S → Option (Int × z_S)) (k48' : Int64 → Int32 → g_S → Option (Int32 × g_S)) (hk48 : ∀ (y0 : Int64) (y1 : Int) (_ : zin y1) (σ : z_S), zR σ → zrel (k48 y0 y1 σ) (k48' y0 (zI y1) (zo σ))) (x1 : Int64) (x4 : Int) (hx4 : zin x4) (σ : z_S) (hσ : zR σ) : zrel (zMod_put_b48 N k48 x1 x4 σ) (Mod_put_b48 N k48' x1 (zI x4) (zo σ)) := by
  unfold zMod_put_b48 Mod_put_b48
  refine zr_ite (zI_lt rfl (zl_0) hx4 (by decide)) ?_ ?_
  · exact zr_of (zMod_put_b90_r N  _ hσ) (congrArg (Mod_put_b90 N) rfl)
  · exact zr_of (zMod_put_b53_r N k48 k48' hk48 x1 _ hx4 _ hσ) (congr (congr (congrArg (Mod_put_b53 N k48') (rfl : x1 = x1)) rfl) rfl)
def zMod_put_l48 (N : Nat) : Nat → Int64 → Int → z_S → Option (Int × z_S)
  | 0 => fun _ _ _ => none
  | n + 1 => fun x1 x4 σ => zMod_put_b48 N (zMod_put_l48 N n) x1 x4 σ
theorem zMod_put_l48_r (N : Nat) (n : Nat) : ∀ (x1 : Int64) (x4 : Int) (hx4 : zin x4) (σ : z_S) (_ : zR σ), zrel (zMod_put_l48 N n x1 x4 σ) (Mod_put_l48 N n x1 (zI x4) (zo σ)) := by
  induction n with
  | zero => intro x1 x4 hx4 σ hσ r s h; cases h
  | succ n ih => intro x1 x4 hx4 σ hσ; exact zMod_put_b48_r N _ _ (fun x1 x4 hx4 σ hσ => ih x1 x4 hx4 σ hσ) x1 x4 hx4 σ hσ
def zMod_put_b43 (N : Nat) (x1 : Int64) (x3 : Int) (σ : z_S) : Option (Int × z_S) := if zin (x3 - 1) then zMod_put_l48 N N x1 (x3 - 1) σ else none
theorem zMod_put_b43_r (N : Nat) (x1 : Int64) (x3 : Int) (hx3 : zin x3) (σ : z_S) (hσ : zR σ) : zrel (zMod_put_b43 N x1 x3 σ) (Mod_put_b43 N x1 (zI x3) (zo σ)) := by
  unfold zMod_put_b43 Mod_put_b43
  refine zr_g (fun g1 => ?_)
  exact zr_of (zMod_put_l48_r N N x1 _ g1 _ hσ) (congr (congr (congrArg (Mod_put_l48 N N) (rfl : x1 = x1)) (zI_sub rfl (zl_1))) rfl)
def zMod_put_b41 (N : Nat) (σ : z_S) : Option (Int × z_S) := some (0, σ)
theorem zMod_put_b41_r (N : Nat) (σ : z_S) (hσ : zR σ) : zrel (zMod_put_b41 N σ) (Mod_put_b41 N (zo σ)) := by
  unfold zMod_put_b41 Mod_put_b41
  exact zr_some (zl_0) (by decide) rfl hσ
def zMod_put_b31 (N : Nat) (x1 : Int64) (x3 : Int) (s1 : Int) (σ : z_S) : Option (Int × z_S) := if s1 ≤ 0 then zMod_put_b43 N x1 x3 (zF σ 0 s1) else zMod_put_b41 N (zF σ 0 s1)
theorem zMod_put_b31_r (N : Nat) (x1 : Int64) (x3 : Int) (hx3 : zin x3) (s1 : Int) (hs1 : zin s1) (σ : z_S) (hσ : zR σ) : zrel (zMod_put_b31 N x1 x3 s1 σ) (Mod_put_b31 N x1 (zI x3) (zI s1) (zo σ)) := by
  unfold zMod_put_b31 Mod_put_b31
  refine zr_ite (zI_le rfl (zl_0) hs1 (by decide)) ?_ ?_
  · exact zr_of (zMod_put_b43_r N x1 _ hx3 _ (zR_F (k := 0) hσ hs1)) (congr (congr (congrArg (Mod_put_b43 N) (rfl : x1 = x1)) rfl) (zo_F (k := 0) rfl rfl))
  · exact zr_of (zMod_put_b41_r N  _ (zR_F (k := 0) hσ hs1)) (congrArg (Mod_put_b41 N) (zo_F (k := 0) rfl rfl))
def zMod_put_b30 (N : Nat) (x1 : Int64) (x3 : Int) (σ : z_S) : Option (Int × z_S) := zMod_put_b31 N x1 x3 0 σ
theorem zMod_put_b30_r (N : Nat) (x1 : Int64) (x3 : Int) (hx3 : zin x3) (σ : z_S) (hσ : zR σ) : zrel (zMod_put_b30 N x1 x3 σ) (Mod_put_b30 N x1 (zI x3) (zo σ)) := by
  unfold zMod_put_b30 Mod_put_b30
  exact zr_of (zMod_put_b31_r N x1 _ hx3 _ (by decide) _ hσ) (congr (congr (congr (congrArg (Mod_put_b31 N) (rfl : x1 = x1)) rfl) (zl_0)) rfl)
def zMod_put_b26 (N : Nat) (x1 : Int64) (x3 : Int) (σ : z_S) : Option (Int × z_S) := zMod_put_b31 N x1 x3 2 σ
theorem zMod_put_b26_r (N : Nat) (x1 : Int64) (x3 : Int) (hx3 : zin x3) (σ : z_S) (hσ : zR σ) : zrel (zMod_put_b26 N x1 x3 σ) (Mod_put_b26 N x1 (zI x3) (zo σ)) := by
  unfold zMod_put_b26 Mod_put_b26
  exact zr_of (zMod_put_b31_r N x1 _ hx3 _ (by decide) _ hσ) (congr (congr (congr (congrArg (Mod_put_b31 N) (rfl : x1 = x1)) rfl) (zl_2)) rfl)
def zMod_put_b14 (N : Nat) (x1 : Int64) (x3 : Int) (σ : z_S) : Option (Int × z_S) := if zin ((σ.1 1) + x3) then if ((σ.1 1) + x3) ≤ 600 then zMod_put_b30 N x1 x3 σ else zMod_put_b26 N x1 x3 σ else none
theorem zMod_put_b14_r (N : Nat) (x1 : Int64) (x3 : Int) (hx3 : zin x3) (σ : z_S) (hσ : zR σ) : zrel (zMod_put_b14 N x1 x3 σ) (Mod_put_b14 N x1 (zI x3) (zo σ)) := by
  unfold zMod_put_b14 Mod_put_b14
  refine zr_g (fun g1 => ?_)
  refine zr_ite (zI_le (zI_add (zo_fld rfl 1) rfl) (zl_600) g1 (by decide)) ?_ ?_
  · exact zr_of (zMod_put_b30_r N x1 _ hx3 _ hσ) (congr (congr (congrArg (Mod_put_b30 N) (rfl : x1 = x1)) rfl) rfl)
  · exact zr_of (zMod_put_b26_r N x1 _ hx3 _ hσ) (congr (congr (congrArg (Mod_put_b26 N) (rfl : x1 = x1)) rfl) rfl)
def zMod_put_b10 (N : Nat) (x1 : Int64) (x3 : Int) (σ : z_S) : Option (Int × z_S) := zMod_put_b31 N x1 x3 1 σ
theorem zMod_put_b10_r (N : Nat) (x1 : Int64) (x3 : Int) (hx3 : zin x3) (σ : z_S) (hσ : zR σ) : zrel (zMod_put_b10 N x1 x3 σ) (Mod_put_b10 N x1 (zI x3) (zo σ)) := by
  unfold zMod_put_b10 Mod_put_b10
  exact zr_of (zMod_put_b31_r N x1 _ hx3 _ (by decide) _ hσ) (congr (congr (congr (congrArg (Mod_put_b31 N) (rfl : x1 = x1)) rfl) (zl_1)) rfl)
def zMod_put_b0 (N : Nat) (x1 : Int64) (x3 : Int) (σ : z_S) : Option (Int × z_S) := (zMod_in N x3 1 4 σ).bind fun q4 => if q4.1 = 0 then zMod_put_b10 N x1 x3 q4.2 else zMod_put_b14 N x1 x3 q4.2
theorem zMod_put_b0_r (N : Nat) (x1 : Int64) (x3 : Int) (hx3 : zin x3) (σ : z_S) (hσ : zR σ) : zrel (zMod_put_b0 N x1 x3 σ) (Mod_put_b0 N x1 (zI x3) (zo σ)) := by
  unfold zMod_put_b0 Mod_put_b0
  refine zr_bind (zr_of (zMod_in_r N _ hx3 _ (by decide) _ (by decide) _ hσ) (congr (congr (congr (congrArg (Mod_in N) rfl) (zl_1)) (zl_4)) rfl)) (fun r4 s4σ hr4 hs4 => ?_)
  dsimp only
  refine zr_ite (zI_eq rfl (zl_0) hr4 (by decide)) ?_ ?_
  · exact zr_of (zMod_put_b10_r N x1 _ hx3 _ hs4) (congr (congr (congrArg (Mod_put_b10 N) (rfl : x1 = x1)) rfl) rfl)
  · exact zr_of (zMod_put_b14_r N x1 _ hx3 _ hs4) (congr (congr (congrArg (Mod_put_b14 N) (rfl : x1 = x1)) rfl) rfl)
def zMod_put (N : Nat) (x1 : Int64) (x3 : Int) (σ : z_S) : Option (Int × z_S) := zMod_put_b0 N x1 x3 σ
theorem zMod_put_r (N : Nat) (x1 : Int64) (x3 : Int) (hx3 : zin x3) (σ : z_S) (hσ : zR σ) : zrel (zMod_put N x1 x3 σ) (Mod_put N x1 (zI x3) (zo σ)) := by
  unfold zMod_put Mod_put
  exact zr_of (zMod_put_b0_r N x1 _ hx3 _ hσ) (congr (congr (congrArg (Mod_put_b0 N) (rfl : x1 = x1)) rfl) rfl)
def zMod_isDigit_b0 (N : Nat) (x0 : Int) (σ : z_S) : Option (Int × z_S) := (zMod_in N x0 48 57 σ).bind fun q5 => if zB q5.1 then some (q5.1, q5.2) else none
theorem zMod_isDigit_b0_r (N : Nat) (x0 : Int) (hx0 : zin x0) (σ : z_S) (hσ : zR σ) : zrel (zMod_isDigit_b0 N x0 σ) (Mod_isDigit_b0 N (zI x0) (zo σ)) := by
  unfold zMod_isDigit_b0 Mod_isDigit_b0
  refine zr_bind (zr_of (zMod_in_r N _ hx0 _ (by decide) _ (by decide) _ hσ) (congr (congr (congr (congrArg (Mod_in N) rfl) (zl_48)) (zl_57)) rfl)) (fun r5 s5σ hr5 hs5 => ?_)
  dsimp only
  refine zr_gg (zg_B rfl) (fun g1 => ?_)
  exact zr_some rfl hr5 rfl hs5
def zMod_isDigit (N : Nat) (x0 : Int) (σ : z_S) : Option (Int × z_S) := zMod_isDigit_b0 N x0 σ
theorem zMod_isDigit_r (N : Nat) (x0 : Int) (hx0 : zin x0) (σ : z_S) (hσ : zR σ) : zrel (zMod_isDigit N x0 σ) (Mod_isDigit N (zI x0) (zo σ)) := by
  unfold zMod_isDigit Mod_isDigit
  exact zr_of (zMod_isDigit_b0_r N _ hx0 _ hσ) (congr (congrArg (Mod_isDigit_b0 N) rfl) rfl)
def zMod_isLetter_b27 (N : Nat) (s0 : Int) (σ : z_S) : Option (Int × z_S) := if zB s0 then some (s0, σ) else none
theorem zMod_isLetter_b27_r (N : Nat) (s0 : Int) (hs0 : zin s0) (σ : z_S) (hσ : zR σ) : zrel (zMod_isLetter_b27 N s0 σ) (Mod_isLetter_b27 N (zI s0) (zo σ)) := by
  unfold zMod_isLetter_b27 Mod_isLetter_b27
  refine zr_gg (zg_B rfl) (fun g1 => ?_)
  exact zr_some rfl hs0 rfl hσ
def zMod_isLetter_b22 (N : Nat) (σ : z_S) : Option (Int × z_S) := zMod_isLetter_b27 N 1 σ
theorem zMod_isLetter_b22_r (N : Nat) (σ : z_S) (hσ : zR σ) : zrel (zMod_isLetter_b22 N σ) (Mod_isLetter_b22 N (zo σ)) := by
  unfold zMod_isLetter_b22 Mod_isLetter_b22
  exact zr_of (zMod_isLetter_b27_r N _ (by decide) _ hσ) (congr (congrArg (Mod_isLetter_b27 N) (zl_1)) rfl)
def zMod_isLetter_b26 (N : Nat) (σ : z_S) : Option (Int × z_S) := zMod_isLetter_b27 N 0 σ
theorem zMod_isLetter_b26_r (N : Nat) (σ : z_S) (hσ : zR σ) : zrel (zMod_isLetter_b26 N σ) (Mod_isLetter_b26 N (zo σ)) := by
  unfold zMod_isLetter_b26 Mod_isLetter_b26
  exact zr_of (zMod_isLetter_b27_r N _ (by decide) _ hσ) (congr (congrArg (Mod_isLetter_b27 N) (zl_0)) rfl)
def zMod_isLetter_b11 (N : Nat) (x0 : Int) (σ : z_S) : Option (Int × z_S) := (zMod_in N x0 65 90 σ).bind fun q16 => if q16.1 = 0 then zMod_isLetter_b26 N q16.2 else zMod_isLetter_b22 N q16.2
theorem zMod_isLetter_b11_r (N : Nat) (x0 : Int) (hx0 : zin x0) (σ : z_S) (hσ : zR σ) : zrel (zMod_isLetter_b11 N x0 σ) (Mod_isLetter_b11 N (zI x0) (zo σ)) := by
  unfold zMod_isLetter_b11 Mod_isLetter_b11
  refine zr_bind (zr_of (zMod_in_r N _ hx0 _ (by decide) _ (by decide) _ hσ) (congr (congr (congr (congrArg (Mod_in N) rfl) (zl_65)) (zl_90)) rfl)) (fun r16 s16σ hr16 hs16 => ?_)
  dsimp only
  refine zr_ite (zI_eq rfl (zl_0) hr16 (by decide)) ?_ ?_
  · exact zr_of (zMod_isLetter_b26_r N  _ hs16) (congrArg (Mod_isLetter_b26 N) rfl)
  · exact zr_of (zMod_isLetter_b22_r N  _ hs16) (congrArg (Mod_isLetter_b22 N) rfl)
def zMod_isLetter_b0 (N : Nat) (x0 : Int) (σ : z_S) : Option (Int × z_S) := (zMod_in N x0 97 122 σ).bind fun q5 => if q5.1 = 0 then zMod_isLetter_b11 N x0 q5.2 else zMod_isLetter_b22 N q5.2
theorem zMod_isLetter_b0_r (N : Nat) (x0 : Int) (hx0 : zin x0) (σ : z_S) (hσ : zR σ) : zrel (zMod_isLetter_b0 N x0 σ) (Mod_isLetter_b0 N (zI x0) (zo σ)) := by
  unfold zMod_isLetter_b0 Mod_isLetter_b0
  refine zr_bind (zr_of (zMod_in_r N _ hx0 _ (by decide) _ (by decide) _ hσ) (congr (congr (congr (congrArg (Mod_in N) rfl) (zl_97)) (zl_122)) rfl)) (fun r5 s5σ hr5 hs5 => ?_)
  dsimp only
  refine zr_ite (zI_eq rfl (zl_0) hr5 (by decide)) ?_ ?_
  · exact zr_of (zMod_isLetter_b11_r N _ hx0 _ hs5) (congr (congrArg (Mod_isLetter_b11 N) rfl) rfl)
  · exact zr_of (zMod_isLetter_b22_r N  _ hs5) (congrArg (Mod_isLetter_b22 N) rfl)
def zMod_isLetter (N : Nat) (x0 : Int) (σ : z_S) : Option (Int × z_S) := zMod_isLetter_b0 N x0 σ
theorem zMod_isLetter_r (N : Nat) (x0 : Int) (hx0 : zin x0) (σ : z_S) (hσ : zR σ) : zrel (zMod_isLetter N x0 σ) (Mod_isLetter N (zI x0) (zo σ)) := by
  unfold zMod_isLetter Mod_isLetter
  exact zr_of (zMod_isLetter_b0_r N _ hx0 _ hσ) (congr (congrArg (Mod_isLetter_b0 N) rfl) rfl)
def zMod_isWord_b25 (N : Nat) (s0 : Int) (σ : z_S) : Option (Int × z_S) := if zB s0 then some (s0, σ) else none
theorem zMod_isWord_b25_r (N : Nat) (s0 : Int) (hs0 : zin s0) (σ : z_S) (hσ : zR σ) : zrel (zMod_isWord_b25 N s0 σ) (Mod_isWord_b25 N (zI s0) (zo σ)) := by
  unfold zMod_isWord_b25 Mod_isWord_b25
  refine zr_gg (zg_B rfl) (fun g1 => ?_)
  exact zr_some rfl hs0 rfl hσ
def zMod_isWord_b20 (N : Nat) (σ : z_S) : Option (Int × z_S) := zMod_isWord_b25 N 1 σ
theorem zMod_isWord_b20_r (N : Nat) (σ : z_S) (hσ : zR σ) : zrel (zMod_isWord_b20 N σ) (Mod_isWord_b20 N (zo σ)) := by
  unfold zMod_isWord_b20 Mod_isWord_b20
  exact zr_of (zMod_isWord_b25_r N _ (by decide) _ hσ) (congr (congrArg (Mod_isWord_b25 N) (zl_1)) rfl)
def zMod_isWord_b24 (N : Nat) (σ : z_S) : Option (Int × z_S) := zMod_isWord_b25 N 0 σ
theorem zMod_isWord_b24_r (N : Nat) (σ : z_S) (hσ : zR σ) : zrel (zMod_isWord_b24 N σ) (Mod_isWord_b24 N (zo σ)) := by
  unfold zMod_isWord_b24 Mod_isWord_b24
  exact zr_of (zMod_isWord_b25_r N _ (by decide) _ hσ) (congr (congrArg (Mod_isWord_b25 N) (zl_0)) rfl)
def zMod_isWord_b14 (N : Nat) (x0 : Int) (σ : z_S) : Option (Int × z_S) := if x0 = 95 then zMod_isWord_b20 N σ else zMod_isWord_b24 N σ
theorem zMod_isWord_b14_r (N : Nat) (x0 : Int) (hx0 : zin x0) (σ : z_S) (hσ : zR σ) : zrel (zMod_isWord_b14 N x0 σ) (Mod_isWord_b14 N (zI x0) (zo σ)) := by
  unfold zMod_isWord_b14 Mod_isWord_b14
  refine zr_ite (zI_eq rfl (zl_95) hx0 (by decide)) ?_ ?_
  · exact zr_of (zMod_isWord_b20_r N  _ hσ) (congrArg (Mod_isWord_b20 N) rfl)
  · exact zr_of (zMod_isWord_b24_r N  _ hσ) (congrArg (Mod_isWord_b24 N) rfl)
def zMod_isWord_b7 (N : Nat) (x0 : Int) (σ : z_S) : Option (Int × z_S) := (zMod_isDigit N x0 σ).bind fun q8 => if q8.1 = 0 then zMod_isWord_b14 N x0 q8.2 else zMod_isWord_b20 N q8.2
theorem zMod_isWord_b7_r (N : Nat) (x0 : Int) (hx0 : zin x0) (σ : z_S) (hσ : zR σ) : zrel (zMod_isWord_b7 N x0 σ) (Mod_isWord_b7 N (zI x0) (zo σ)) := by
  unfold zMod_isWord_b7 Mod_isWord_b7
  refine zr_bind (zr_of (zMod_isDigit_r N _ hx0 _ hσ) (congr (congrArg (Mod_isDigit N) rfl) rfl)) (fun r8 s8σ hr8 hs8 => ?_)
  dsimp only
  refine zr_ite (zI_eq rfl (zl_0) hr8 (by decide)) ?_ ?_
  · exact zr_of (zMod_isWord_b14_r N _ hx0 _ hs8) (congr (congrArg (Mod_isWord_b14 N) rfl) rfl)
  · exact zr_of (zMod_isWord_b20_r N  _ hs8) (congrArg (Mod_isWord_b20 N) rfl)
def zMod_isWord_b0 (N : Nat) (x0 : Int) (σ : z_S) : Option (Int × z_S) := (zMod_isLetter N x0 σ).bind fun q1 => if q1.1 = 0 then zMod_isWord_b7 N x0 q1.2 else zMod_isWord_b20 N q1.2
theorem zMod_isWord_b0_r (N : Nat) (x0 : Int) (hx0 : zin x0) (σ : z_S) (hσ : zR σ) : zrel (zMod_isWord_b0 N x0 σ) (Mod_isWord_b0 N (zI x0) (zo σ)) := by
  unfold zMod_isWord_b0 Mod_isWord_b0
  refine zr_bind (zr_of (zMod_isLetter_r N _ hx0 _ hσ) (congr (congrArg (Mod_isLetter N) rfl) rfl)) (fun r1 s1σ hr1 hs1 => ?_)
  dsimp only
  refine zr_ite (zI_eq rfl (zl_0) hr1 (by decide)) ?_ ?_
  · exact zr_of (zMod_isWord_b7_r N _ hx0 _ hs1) (congr (congrArg (Mod_isWord_b7 N) rfl) rfl)
  · exact zr_of (zMod_isWord_b20_r N  _ hs1) (congrArg (Mod_isWord_b20 N) rfl)
def zMod_isWord (N : Nat) (x0 : Int) (σ : z_S) : Option (Int × z_S) := zMod_isWord_b0 N x0 σ
theorem zMod_isWord_r (N : Nat) (x0 : Int) (hx0 : zin x0) (σ : z_S) (hσ : zR σ) : zrel (zMod_isWord N x0 σ) (Mod_isWord N (zI x0) (zo σ)) := by
  unfold zMod_isWord Mod_isWord
  exact zr_of (zMod_isWord_b0_r N _ hx0 _ hσ) (congr (congrArg (Mod_isWord_b0 N) rfl) rfl)
def zMod_isNamed_b78 (N : Nat) (s0 : Int) (σ : z_S) : Option (Int × z_S) := if zB s0 then some (s0, σ) else none
theorem zMod_isNamed_b78_r (N : Nat) (s0 : Int) (hs0 : zin s0) (σ : z_S) (hσ : zR σ) : zrel (zMod_isNamed_b78 N s0 σ) (Mod_isNamed_b78 N (zI s0) (zo σ)) := by
  unfold zMod_isNamed_b78 Mod_isNamed_b78
  refine zr_gg (zg_B rfl) (fun g1 => ?_)
  exact zr_some rfl hs0 rfl hσ
def zMod_isNamed_b73 (N : Nat) (σ : z_S) : Option (Int × z_S) := zMod_isNamed_b78 N 1 σ
theorem zMod_isNamed_b73_r (N : Nat) (σ : z_S) (hσ : zR σ) : zrel (zMod_isNamed_b73 N σ) (Mod_isNamed_b73 N (zo σ)) := by
  unfold zMod_isNamed_b73 Mod_isNamed_b73
  exact zr_of (zMod_isNamed_b78_r N _ (by decide) _ hσ) (congr (congrArg (Mod_isNamed_b78 N) (zl_1)) rfl)
def zMod_isNamed_b77 (N : Nat) (σ : z_S) : Option (Int × z_S) := zMod_isNamed_b78 N 0 σ
theorem zMod_isNamed_b77_r (N : Nat) (σ : z_S) (hσ : zR σ) : zrel (zMod_isNamed_b77 N σ) (Mod_isNamed_b77 N (zo σ)) := by
  unfold zMod_isNamed_b77 Mod_isNamed_b77
  exact zr_of (zMod_isNamed_b78_r N _ (by decide) _ hσ) (congr (congrArg (Mod_isNamed_b78 N) (zl_0)) rfl)
def zMod_isNamed_b60 (N : Nat) (x0 : Int) (σ : z_S) : Option (Int × z_S) := (zMod_in N x0 248 255 σ).bind fun q67 => if q67.1 = 0 then zMod_isNamed_b77 N q67.2 else zMod_isNamed_b73 N q67.2
theorem zMod_isNamed_b60_r (N : Nat) (x0 : Int) (hx0 : zin x0) (σ : z_S) (hσ : zR σ) : zrel (zMod_isNamed_b60 N x0 σ) (Mod_isNamed_b60 N (zI x0) (zo σ)) := by
  unfold zMod_isNamed_b60 Mod_isNamed_b60
  refine zr_bind (zr_of (zMod_in_r N _ hx0 _ (by decide) _ (by decide) _ hσ) (congr (congr (congr (congrArg (Mod_in N) rfl) (zl_248)) (zl_255)) rfl)) (fun r67 s67σ hr67 hs67 => ?_)
  dsimp only
  refine zr_ite (zI_eq rfl (zl_0) hr67 (by decide)) ?_ ?_
  · exact zr_of (zMod_isNamed_b77_r N  _ hs67) (congrArg (Mod_isNamed_b77 N) rfl)
  · exact zr_of (zMod_isNamed_b73_r N  _ hs67) (congrArg (Mod_isNamed_b73 N) rfl)
def zMod_isNamed_b47 (N : Nat) (x0 : Int) (σ : z_S) : Option (Int × z_S) := (zMod_in N x0 216 246 σ).bind fun q54 => if q54.1 = 0 then zMod_isNamed_b60 N x0 q54.2 else zMod_isNamed_b73 N q54.2
theorem zMod_isNamed_b47_r (N : Nat) (x0 : Int) (hx0 : zin x0) (σ : z_S) (hσ : zR σ) : zrel (zMod_isNamed_b47 N x0 σ) (Mod_isNamed_b47 N (zI x0) (zo σ)) := by
  unfold zMod_isNamed_b47 Mod_isNamed_b47
  refine zr_bind (zr_of (zMod_in_r N _ hx0 _ (by decide) _ (by decide) _ hσ) (congr (congr (congr (congrArg (Mod_in N) rfl) (zl_216)) (zl_246)) rfl)) (fun r54 s54σ hr54 hs54 => ?_)
  dsimp only
  refine zr_ite (zI_eq rfl (zl_0) hr54 (by decide)) ?_ ?_
  · exact zr_of (zMod_isNamed_b60_r N _ hx0 _ hs54) (congr (congrArg (Mod_isNamed_b60 N) rfl) rfl)
  · exact zr_of (zMod_isNamed_b73_r N  _ hs54) (congrArg (Mod_isNamed_b73 N) rfl)
def zMod_isNamed_b34 (N : Nat) (x0 : Int) (σ : z_S) : Option (Int × z_S) := (zMod_in N x0 192 214 σ).bind fun q41 => if q41.1 = 0 then zMod_isNamed_b47 N x0 q41.2 else zMod_isNamed_b73 N q41.2
theorem zMod_isNamed_b34_r (N : Nat) (x0 : Int) (hx0 : zin x0) (σ : z_S) (hσ : zR σ) : zrel (zMod_isNamed_b34 N x0 σ) (Mod_isNamed_b34 N (zI x0) (zo σ)) := by
  unfold zMod_isNamed_b34 Mod_isNamed_b34
  refine zr_bind (zr_of (zMod_in_r N _ hx0 _ (by decide) _ (by decide) _ hσ) (congr (congr (congr (congrArg (Mod_in N) rfl) (zl_192)) (zl_214)) rfl)) (fun r41 s41σ hr41 hs41 => ?_)
  dsimp only
  refine zr_ite (zI_eq rfl (zl_0) hr41 (by decide)) ?_ ?_
  · exact zr_of (zMod_isNamed_b47_r N _ hx0 _ hs41) (congr (congrArg (Mod_isNamed_b47 N) rfl) rfl)
  · exact zr_of (zMod_isNamed_b73_r N  _ hs41) (congrArg (Mod_isNamed_b73 N) rfl)
def zMod_isNamed_b27 (N : Nat) (x0 : Int) (σ : z_S) : Option (Int × z_S) := if x0 = 186 then zMod_isNamed_b73 N σ else zMod_isNamed_b34 N x0 σ
theorem zMod_isNamed_b27_r (N : Nat) (x0 : Int) (hx0 : zin x0) (σ : z_S) (hσ : zR σ) : zrel (zMod_isNamed_b27 N x0 σ) (Mod_isNamed_b27 N (zI x0) (zo σ)) := by
  unfold zMod_isNamed_b27 Mod_isNamed_b27
  refine zr_ite (zI_eq rfl (zl_186) hx0 (by decide)) ?_ ?_
  · exact zr_of (zMod_isNamed_b73_r N  _ hσ) (congrArg (Mod_isNamed_b73 N) rfl)
  · exact zr_of (zMod_isNamed_b34_r N _ hx0 _ hσ) (congr (congrArg (Mod_isNamed_b34 N) rfl) rfl)
def zMod_isNamed_b20 (N : Nat) (x0 : Int) (σ : z_S) : Option (Int × z_S) := if x0 = 181 then zMod_isNamed_b73 N σ else zMod_isNamed_b27 N x0 σ
theorem zMod_isNamed_b20_r (N : Nat) (x0 : Int) (hx0 : zin x0) (σ : z_S) (hσ : zR σ) : zrel (zMod_isNamed_b20 N x0 σ) (Mod_isNamed_b20 N (zI x0) (zo σ)) := by
  unfold zMod_isNamed_b20 Mod_isNamed_b20
  refine zr_ite (zI_eq rfl (zl_181) hx0 (by decide)) ?_ ?_
  · exact zr_of (zMod_isNamed_b73_r N  _ hσ) (congrArg (Mod_isNamed_b73 N) rfl)
  · exact zr_of (zMod_isNamed_b27_r N _ hx0 _ hσ) (congr (congrArg (Mod_isNamed_b27 N) rfl) rfl)
def zMod_isNamed_b13 (N : Nat) (x0 : Int) (σ : z_S) : Option (Int × z_S) := if x0 = 170 then zMod_isNamed_b73 N σ else zMod_isNamed_b20 N x0 σ
theorem zMod_isNamed_b13_r (N : Nat) (x0 : Int) (hx0 : zin x0) (σ : z_S) (hσ : zR σ) : zrel (zMod_isNamed_b13 N x0 σ) (Mod_isNamed_b13 N (zI x0) (zo σ)) := by
  unfold zMod_isNamed_b13 Mod_isNamed_b13
  refine zr_ite (zI_eq rfl (zl_170) hx0 (by decide)) ?_ ?_
  · exact zr_of (zMod_isNamed_b73_r N  _ hσ) (congrArg (Mod_isNamed_b73 N) rfl)
  · exact zr_of (zMod_isNamed_b20_r N _ hx0 _ hσ) (congr (congrArg (Mod_isNamed_b20 N) rfl) rfl)
def zMod_isNamed_b7 (N : Nat) (x0 : Int) (σ : z_S) : Option (Int × z_S) := if x0 = 36 then zMod_isNamed_b73 N σ else zMod_isNamed_b13 N x0 σ
theorem zMod_isNamed_b7_r (N : Nat) (x0 : Int) (hx0 : zin x0) (σ : z_S) (hσ : zR σ) : zrel (zMod_isNamed_b7 N x0 σ) (Mod_isNamed_b7 N (zI x0) (zo σ)) := by
  unfold zMod_isNamed_b7 Mod_isNamed_b7
  refine zr_ite (zI_eq rfl (zl_36) hx0 (by decide)) ?_ ?_
  · exact zr_of (zMod_isNamed_b73_r N  _ hσ) (congrArg (Mod_isNamed_b73 N) rfl)
  · exact zr_of (zMod_isNamed_b13_r N _ hx0 _ hσ) (congr (congrArg (Mod_isNamed_b13 N) rfl) rfl)
def zMod_isNamed_b0 (N : Nat) (x0 : Int) (σ : z_S) : Option (Int × z_S) := (zMod_isWord N x0 σ).bind fun q1 => if q1.1 = 0 then zMod_isNamed_b7 N x0 q1.2 else zMod_isNamed_b73 N q1.2
theorem zMod_isNamed_b0_r (N : Nat) (x0 : Int) (hx0 : zin x0) (σ : z_S) (hσ : zR σ) : zrel (zMod_isNamed_b0 N x0 σ) (Mod_isNamed_b0 N (zI x0) (zo σ)) := by
  unfold zMod_isNamed_b0 Mod_isNamed_b0
  refine zr_bind (zr_of (zMod_isWord_r N _ hx0 _ hσ) (congr (congrArg (Mod_isWord N) rfl) rfl)) (fun r1 s1σ hr1 hs1 => ?_)
  dsimp only
  refine zr_ite (zI_eq rfl (zl_0) hr1 (by decide)) ?_ ?_
  · exact zr_of (zMod_isNamed_b7_r N _ hx0 _ hs1) (congr (congrArg (Mod_isNamed_b7 N) rfl) rfl)
  · exact zr_of (zMod_isNamed_b73_r N  _ hs1) (congrArg (Mod_isNamed_b73 N) rfl)
def zMod_isNamed (N : Nat) (x0 : Int) (σ : z_S) : Option (Int × z_S) := zMod_isNamed_b0 N x0 σ
theorem zMod_isNamed_r (N : Nat) (x0 : Int) (hx0 : zin x0) (σ : z_S) (hσ : zR σ) : zrel (zMod_isNamed N x0 σ) (Mod_isNamed N (zI x0) (zo σ)) := by
  unfold zMod_isNamed Mod_isNamed
  exact zr_of (zMod_isNamed_b0_r N _ hx0 _ hσ) (congr (congrArg (Mod_isNamed_b0 N) rfl) rfl)
def zMod_isLineEnd_b31 (N : Nat) (s0 : Int) (σ : z_S) : Option (Int × z_S) := if zB s0 then some (s0, σ) else none
theorem zMod_isLineEnd_b31_r (N : Nat) (s0 : Int) (hs0 : zin s0) (σ : z_S) (hσ : zR σ) : zrel (zMod_isLineEnd_b31 N s0 σ) (Mod_isLineEnd_b31 N (zI s0) (zo σ)) := by
  unfold zMod_isLineEnd_b31 Mod_isLineEnd_b31
  refine zr_gg (zg_B rfl) (fun g1 => ?_)
  exact zr_some rfl hs0 rfl hσ
def zMod_isLineEnd_b26 (N : Nat) (σ : z_S) : Option (Int × z_S) := zMod_isLineEnd_b31 N 1 σ
theorem zMod_isLineEnd_b26_r (N : Nat) (σ : z_S) (hσ : zR σ) : zrel (zMod_isLineEnd_b26 N σ) (Mod_isLineEnd_b26 N (zo σ)) := by
  unfold zMod_isLineEnd_b26 Mod_isLineEnd_b26
  exact zr_of (zMod_isLineEnd_b31_r N _ (by decide) _ hσ) (congr (congrArg (Mod_isLineEnd_b31 N) (zl_1)) rfl)
def zMod_isLineEnd_b30 (N : Nat) (σ : z_S) : Option (Int × z_S) := zMod_isLineEnd_b31 N 0 σ
theorem zMod_isLineEnd_b30_r (N : Nat) (σ : z_S) (hσ : zR σ) : zrel (zMod_isLineEnd_b30 N σ) (Mod_isLineEnd_b30 N (zo σ)) := by
  unfold zMod_isLineEnd_b30 Mod_isLineEnd_b30
  exact zr_of (zMod_isLineEnd_b31_r N _ (by decide) _ hσ) (congr (congrArg (Mod_isLineEnd_b31 N) (zl_0)) rfl)
def zMod_isLineEnd_b19 (N : Nat) (x0 : Int) (σ : z_S) : Option (Int × z_S) := if x0 = 8233 then zMod_isLineEnd_b26 N σ else zMod_isLineEnd_b30 N σ
theorem zMod_isLineEnd_b19_r (N : Nat) (x0 : Int) (hx0 : zin x0) (σ : z_S) (hσ : zR σ) : zrel (zMod_isLineEnd_b19 N x0 σ) (Mod_isLineEnd_b19 N (zI x0) (zo σ)) := by
  unfold zMod_isLineEnd_b19 Mod_isLineEnd_b19
  refine zr_ite (zI_eq rfl (zl_8233) hx0 (by decide)) ?_ ?_
  · exact zr_of (zMod_isLineEnd_b26_r N  _ hσ) (congrArg (Mod_isLineEnd_b26 N) rfl)
  · exact zr_of (zMod_isLineEnd_b30_r N  _ hσ) (congrArg (Mod_isLineEnd_b30 N) rfl)
def zMod_isLineEnd_b12 (N : Nat) (x0 : Int) (σ : z_S) : Option (Int × z_S) := if x0 = 8232 then zMod_isLineEnd_b26 N σ else zMod_isLineEnd_b19 N x0 σ
theorem zMod_isLineEnd_b12_r (N : Nat) (x0 : Int) (hx0 : zin x0) (σ : z_S) (hσ : zR σ) : zrel (zMod_isLineEnd_b12 N x0 σ) (Mod_isLineEnd_b12 N (zI x0) (zo σ)) := by
  unfold zMod_isLineEnd_b12 Mod_isLineEnd_b12
  refine zr_ite (zI_eq rfl (zl_8232) hx0 (by decide)) ?_ ?_
  · exact zr_of (zMod_isLineEnd_b26_r N  _ hσ) (congrArg (Mod_isLineEnd_b26 N) rfl)
  · exact zr_of (zMod_isLineEnd_b19_r N _ hx0 _ hσ) (congr (congrArg (Mod_isLineEnd_b19 N) rfl) rfl)
def zMod_isLineEnd_b6 (N : Nat) (x0 : Int) (σ : z_S) : Option (Int × z_S) := if x0 = 13 then zMod_isLineEnd_b26 N σ else zMod_isLineEnd_b12 N x0 σ
theorem zMod_isLineEnd_b6_r (N : Nat) (x0 : Int) (hx0 : zin x0) (σ : z_S) (hσ : zR σ) : zrel (zMod_isLineEnd_b6 N x0 σ) (Mod_isLineEnd_b6 N (zI x0) (zo σ)) := by
  unfold zMod_isLineEnd_b6 Mod_isLineEnd_b6
  refine zr_ite (zI_eq rfl (zl_13) hx0 (by decide)) ?_ ?_
  · exact zr_of (zMod_isLineEnd_b26_r N  _ hσ) (congrArg (Mod_isLineEnd_b26 N) rfl)
  · exact zr_of (zMod_isLineEnd_b12_r N _ hx0 _ hσ) (congr (congrArg (Mod_isLineEnd_b12 N) rfl) rfl)
def zMod_isLineEnd_b0 (N : Nat) (x0 : Int) (σ : z_S) : Option (Int × z_S) := if x0 = 10 then zMod_isLineEnd_b26 N σ else zMod_isLineEnd_b6 N x0 σ
theorem zMod_isLineEnd_b0_r (N : Nat) (x0 : Int) (hx0 : zin x0) (σ : z_S) (hσ : zR σ) : zrel (zMod_isLineEnd_b0 N x0 σ) (Mod_isLineEnd_b0 N (zI x0) (zo σ)) := by
  unfold zMod_isLineEnd_b0 Mod_isLineEnd_b0
  refine zr_ite (zI_eq rfl (zl_10) hx0 (by decide)) ?_ ?_
  · exact zr_of (zMod_isLineEnd_b26_r N  _ hσ) (congrArg (Mod_isLineEnd_b26 N) rfl)
  · exact zr_of (zMod_isLineEnd_b6_r N _ hx0 _ hσ) (congr (congrArg (Mod_isLineEnd_b6 N) rfl) rfl)
def zMod_isLineEnd (N : Nat) (x0 : Int) (σ : z_S) : Option (Int × z_S) := zMod_isLineEnd_b0 N x0 σ
theorem zMod_isLineEnd_r (N : Nat) (x0 : Int) (hx0 : zin x0) (σ : z_S) (hσ : zR σ) : zrel (zMod_isLineEnd N x0 σ) (Mod_isLineEnd N (zI x0) (zo σ)) := by
  unfold zMod_isLineEnd Mod_isLineEnd
  exact zr_of (zMod_isLineEnd_b0_r N _ hx0 _ hσ) (congr (congrArg (Mod_isLineEnd_b0 N) rfl) rfl)
def zMod_isBlank_b90 (N : Nat) (s0 : Int) (σ : z_S) : Option (Int × z_S) := if zB s0 then some (s0, σ) else none
theorem zMod_isBlank_b90_r (N : Nat) (s0 : Int) (hs0 : zin s0) (σ : z_S) (hσ : zR σ) : zrel (zMod_isBlank_b90 N s0 σ) (Mod_isBlank_b90 N (zI s0) (zo σ)) := by
  unfold zMod_isBlank_b90 Mod_isBlank_b90
  refine zr_gg (zg_B rfl) (fun g1 => ?_)
  exact zr_some rfl hs0 rfl hσ
def zMod_isBlank_b85 (N : Nat) (σ : z_S) : Option (Int × z_S) := zMod_isBlank_b90 N 1 σ
theorem zMod_isBlank_b85_r (N : Nat) (σ : z_S) (hσ : zR σ) : zrel (zMod_isBlank_b85 N σ) (Mod_isBlank_b85 N (zo σ)) := by
  unfold zMod_isBlank_b85 Mod_isBlank_b85
  exact zr_of (zMod_isBlank_b90_r N _ (by decide) _ hσ) (congr (congrArg (Mod_isBlank_b90 N) (zl_1)) rfl)
def zMod_isBlank_b89 (N : Nat) (σ : z_S) : Option (Int × z_S) := zMod_isBlank_b90 N 0 σ
theorem zMod_isBlank_b89_r (N : Nat) (σ : z_S) (hσ : zR σ) : zrel (zMod_isBlank_b89 N σ) (Mod_isBlank_b89 N (zo σ)) := by
  unfold zMod_isBlank_b89 Mod_isBlank_b89
  exact zr_of (zMod_isBlank_b90_r N _ (by decide) _ hσ) (congr (congrArg (Mod_isBlank_b90 N) (zl_0)) rfl)
def zMod_isBlank_b79 (N : Nat) (x0 : Int) (σ : z_S) : Option (Int × z_S) := if x0 = 65279 then zMod_isBlank_b85 N σ else zMod_isBlank_b89 N σ
theorem zMod_isBlank_b79_r (N : Nat) (x0 : Int) (hx0 : zin x0) (σ : z_S) (hσ : zR σ) : zrel (zMod_isBlank_b79 N x0 σ) (Mod_isBlank_b79 N (zI x0) (zo σ)) := by
  unfold zMod_isBlank_b79 Mod_isBlank_b79
  refine zr_ite (zI_eq rfl (zl_65279) hx0 (by decide)) ?_ ?_
  · exact zr_of (zMod_isBlank_b85_r N  _ hσ) (congrArg (Mod_isBlank_b85 N) rfl)
  · exact zr_of (zMod_isBlank_b89_r N  _ hσ) (congrArg (Mod_isBlank_b89 N) rfl)
def zMod_isBlank_b72 (N : Nat) (x0 : Int) (σ : z_S) : Option (Int × z_S) := if x0 = 12288 then zMod_isBlank_b85 N σ else zMod_isBlank_b79 N x0 σ
theorem zMod_isBlank_b72_r (N : Nat) (x0 : Int) (hx0 : zin x0) (σ : z_S) (hσ : zR σ) : zrel (zMod_isBlank_b72 N x0 σ) (Mod_isBlank_b72 N (zI x0) (zo σ)) := by
  unfold zMod_isBlank_b72 Mod_isBlank_b72
  refine zr_ite (zI_eq rfl (zl_12288) hx0 (by decide)) ?_ ?_
  · exact zr_of (zMod_isBlank_b85_r N  _ hσ) (congrArg (Mod_isBlank_b85 N) rfl)
  · exact zr_of (zMod_isBlank_b79_r N _ hx0 _ hσ) (congr (congrArg (Mod_isBlank_b79 N) rfl) rfl)
def zMod_isBlank_b65 (N : Nat) (x0 : Int) (σ : z_S) : Option (Int × z_S) := if x0 = 8287 then zMod_isBlank_b85 N σ else zMod_isBlank_b72 N x0 σ
theorem zMod_isBlank_b65_r (N : Nat) (x0 : Int) (hx0 : zin x0) (σ : z_S) (hσ : zR σ) : zrel (zMod_isBlank_b65 N x0 σ) (Mod_isBlank_b65 N (zI x0) (zo σ)) := by
  unfold zMod_isBlank_b65 Mod_isBlank_b65
  refine zr_ite (zI_eq rfl (zl_8287) hx0 (by decide)) ?_ ?_
  · exact zr_of (zMod_isBlank_b85_r N  _ hσ) (congrArg (Mod_isBlank_b85 N) rfl)
  · exact zr_of (zMod_isBlank_b72_r N _ hx0 _ hσ) (congr (congrArg (Mod_isBlank_b72 N) rfl) rfl)
def zMod_isBlank_b58 (N : Nat) (x0 : Int) (σ : z_S) : Option (Int × z_S) := if x0 = 8239 then zMod_isBlank_b85 N σ else zMod_isBlank_b65 N x0 σ
theorem zMod_isBlank_b58_r (N : Nat) (x0 : Int) (hx0 : zin x0) (σ : z_S) (hσ : zR σ) : zrel (zMod_isBlank_b58 N x0 σ) (Mod_isBlank_b58 N (zI x0) (zo σ)) := by
  unfold zMod_isBlank_b58 Mod_isBlank_b58
  refine zr_ite (zI_eq rfl (zl_8239) hx0 (by decide)) ?_ ?_
  · exact zr_of (zMod_isBlank_b85_r N  _ hσ) (congrArg (Mod_isBlank_b85 N) rfl)
  · exact zr_of (zMod_isBlank_b65_r N _ hx0 _ hσ) (congr (congrArg (Mod_isBlank_b65 N) rfl) rfl)
def zMod_isBlank_b45 (N : Nat) (x0 : Int) (σ : z_S) : Option (Int × z_S) := (zMod_in N x0 8192 8202 σ).bind fun q52 => if q52.1 = 0 then zMod_isBlank_b58 N x0 q52.2 else zMod_isBlank_b85 N q52.2
theorem zMod_isBlank_b45_r (N : Nat) (x0 : Int) (hx0 : zin x0) (σ : z_S) (hσ : zR σ) : zrel (zMod_isBlank_b45 N x0 σ) (Mod_isBlank_b45 N (zI x0) (zo σ)) := by
  unfold zMod_isBlank_b45 Mod_isBlank_b45
  refine zr_bind (zr_of (zMod_in_r N _ hx0 _ (by decide) _ (by decide) _ hσ) (congr (congr (congr (congrArg (Mod_in N) rfl) (zl_8192)) (zl_8202)) rfl)) (fun r52 s52σ hr52 hs52 => ?_)
  dsimp only
  refine zr_ite (zI_eq rfl (zl_0) hr52 (by decide)) ?_ ?_
  · exact zr_of (zMod_isBlank_b58_r N _ hx0 _ hs52) (congr (congrArg (Mod_isBlank_b58 N) rfl) rfl)
  · exact zr_of (zMod_isBlank_b85_r N  _ hs52) (congrArg (Mod_isBlank_b85 N) rfl)
def zMod_isBlank_b38 (N : Nat) (x0 : Int) (σ : z_S) : Option (Int × z_S) := if x0 = 6158 then zMod_isBlank_b85 N σ else zMod_isBlank_b45 N x0 σ
theorem zMod_isBlank_b38_r (N : Nat) (x0 : Int) (hx0 : zin x0) (σ : z_S) (hσ : zR σ) : zrel (zMod_isBlank_b38 N x0 σ) (Mod_isBlank_b38 N (zI x0) (zo σ)) := by
  unfold zMod_isBlank_b38 Mod_isBlank_b38
  refine zr_ite (zI_eq rfl (zl_6158) hx0 (by decide)) ?_ ?_
  · exact zr_of (zMod_isBlank_b85_r N  _ hσ) (congrArg (Mod_isBlank_b85 N) rfl)
  · exact zr_of (zMod_isBlank_b45_r N _ hx0 _ hσ) (congr (congrArg (Mod_isBlank_b45 N) rfl) rfl)
def zMod_isBlank_b31 (N : Nat) (x0 : Int) (σ : z_S) : Option (Int × z_S) := if x0 = 5760 then zMod_isBlank_b85 N σ else zMod_isBlank_b38 N x0 σ
theorem zMod_isBlank_b31_r (N : Nat) (x0 : Int) (hx0 : zin x0) (σ : z_S) (hσ : zR σ) : zrel (zMod_isBlank_b31 N x0 σ) (Mod_isBlank_b31 N (zI x0) (zo σ)) := by
  unfold zMod_isBlank_b31 Mod_isBlank_b31
  refine zr_ite (zI_eq rfl (zl_5760) hx0 (by decide)) ?_ ?_
  · exact zr_of (zMod_isBlank_b85_r N  _ hσ) (congrArg (Mod_isBlank_b85 N) rfl)
  · exact zr_of (zMod_isBlank_b38_r N _ hx0 _ hσ) (congr (congrArg (Mod_isBlank_b38 N) rfl) rfl)
def zMod_isBlank_b24 (N : Nat) (x0 : Int) (σ : z_S) : Option (Int × z_S) := if x0 = 160 then zMod_isBlank_b85 N σ else zMod_isBlank_b31 N x0 σ
theorem zMod_isBlank_b24_r (N : Nat) (x0 : Int) (hx0 : zin x0) (σ : z_S) (hσ : zR σ) : zrel (zMod_isBlank_b24 N x0 σ) (Mod_isBlank_b24 N (zI x0) (zo σ)) := by
  unfold zMod_isBlank_b24 Mod_isBlank_b24
  refine zr_ite (zI_eq rfl (zl_160) hx0 (by decide)) ?_ ?_
  · exact zr_of (zMod_isBlank_b85_r N  _ hσ) (congrArg (Mod_isBlank_b85 N) rfl)
  · exact zr_of (zMod_isBlank_b31_r N _ hx0 _ hσ) (congr (congrArg (Mod_isBlank_b31 N) rfl) rfl)
def zMod_isBlank_b18 (N : Nat) (x0 : Int) (σ : z_S) : Option (Int × z_S) := if x0 = 32 then zMod_isBlank_b85 N σ else zMod_isBlank_b24 N x0 σ
theorem zMod_isBlank_b18_r (N : Nat) (x0 : Int) (hx0 : zin x0) (σ : z_S) (hσ : zR σ) : zrel (zMod_isBlank_b18 N x0 σ) (Mod_isBlank_b18 N (zI x0) (zo σ)) := by
  unfold zMod_isBlank_b18 Mod_isBlank_b18
  refine zr_ite (zI_eq rfl (zl_32) hx0 (by decide)) ?_ ?_
  · exact zr_of (zMod_isBlank_b85_r N  _ hσ) (congrArg (Mod_isBlank_b85 N) rfl)
  · exact zr_of (zMod_isBlank_b24_r N _ hx0 _ hσ) (congr (congrArg (Mod_isBlank_b24 N) rfl) rfl)
def zMod_isBlank_b12 (N : Nat) (x0 : Int) (σ : z_S) : Option (Int × z_S) := if x0 = 12 then zMod_isBlank_b85 N σ else zMod_isBlank_b18 N x0 σ
theorem zMod_isBlank_b12_r (N : Nat) (x0 : Int) (hx0 : zin x0) (σ : z_S) (hσ : zR σ) : zrel (zMod_isBlank_b12 N x0 σ) (Mod_isBlank_b12 N (zI x0) (zo σ)) := by
  unfold zMod_isBlank_b12 Mod_isBlank_b12
  refine zr_ite (zI_eq rfl (zl_12) hx0 (by decide)) ?_ ?_
  · exact zr_of (zMod_isBlank_b85_r N  _ hσ) (congrArg (Mod_isBlank_b85 N) rfl)
  · exact zr_of (zMod_isBlank_b18_r N _ hx0 _ hσ) (congr (congrArg (Mod_isBlank_b18 N) rfl) rfl)
def zMod_isBlank_b6 (N : Nat) (x0 : Int) (σ : z_S) : Option (Int × z_S) := if x0 = 11 then zMod_isBlank_b85 N σ else zMod_isBlank_b12 N x0 σ
theorem zMod_isBlank_b6_r (N : Nat) (x0 : Int) (hx0 : zin x0) (σ : z_S) (hσ : zR σ) : zrel (zMod_isBlank_b6 N x0 σ) (Mod_isBlank_b6 N (zI x0) (zo σ)) := by
  unfold zMod_isBlank_b6 Mod_isBlank_b6
  refine zr_ite (zI_eq rfl (zl_11) hx0 (by decide)) ?_ ?_
  · exact zr_of (zMod_isBlank_b85_r N  _ hσ) (congrArg (Mod_isBlank_b85 N) rfl)
  · exact zr_of (zMod_isBlank_b12_r N _ hx0 _ hσ) (congr (congrArg (Mod_isBlank_b12 N) rfl) rfl)
def zMod_isBlank_b0 (N : Nat) (x0 : Int) (σ : z_S) : Option (Int × z_S) := if x0 = 9 then zMod_isBlank_b85 N σ else zMod_isBlank_b6 N x0 σ
theorem zMod_isBlank_b0_r (N : Nat) (x0 : Int) (hx0 : zin x0) (σ : z_S) (hσ : zR σ) : zrel (zMod_isBlank_b0 N x0 σ) (Mod_isBlank_b0 N (zI x0) (zo σ)) := by
  unfold zMod_isBlank_b0 Mod_isBlank_b0
  refine zr_ite (zI_eq rfl (zl_9) hx0 (by decide)) ?_ ?_
  · exact zr_of (zMod_isBlank_b85_r N  _ hσ) (congrArg (Mod_isBlank_b85 N) rfl)
  · exact zr_of (zMod_isBlank_b6_r N _ hx0 _ hσ) (congr (congrArg (Mod_isBlank_b6 N) rfl) rfl)
def zMod_isBlank (N : Nat) (x0 : Int) (σ : z_S) : Option (Int × z_S) := zMod_isBlank_b0 N x0 σ
theorem zMod_isBlank_r (N : Nat) (x0 : Int) (hx0 : zin x0) (σ : z_S) (hσ : zR σ) : zrel (zMod_isBlank N x0 σ) (Mod_isBlank N (zI x0) (zo σ)) := by
  unfold zMod_isBlank Mod_isBlank
  exact zr_of (zMod_isBlank_b0_r N _ hx0 _ hσ) (congr (congrArg (Mod_isBlank_b0 N) rfl) rfl)
def zMod_inSet_b35 (N : Nat) (s0 : Int) (σ : z_S) : Option (Int × z_S) := if zB s0 then some (s0, σ) else none
theorem zMod_inSet_b35_r (N : Nat) (s0 : Int) (hs0 : zin s0) (σ : z_S) (hσ : zR σ) : zrel (zMod_inSet_b35 N s0 σ) (Mod_inSet_b35 N (zI s0) (zo σ)) := by
  unfold zMod_inSet_b35 Mod_inSet_b35
  refine zr_gg (zg_B rfl) (fun g1 => ?_)
  exact zr_some rfl hs0 rfl hσ
def zMod_inSet_b34 (N : Nat) (σ : z_S) : Option (Int × z_S) := zMod_inSet_b35 N 0 σ
theorem zMod_inSet_b34_r (N : Nat) (σ : z_S) (hσ : zR σ) : zrel (zMod_inSet_b34 N σ) (Mod_inSet_b34 N (zo σ)) := by
  unfold zMod_inSet_b34 Mod_inSet_b34
  exact zr_of (zMod_inSet_b35_r N _ (by decide) _ hσ) (congr (congrArg (Mod_inSet_b35 N) (zl_0)) rfl)
def zMod_inSet_b30 (N : Nat) (σ : z_S) : Option (Int × z_S) := zMod_inSet_b35 N 1 σ
theorem zMod_inSet_b30_r (N : Nat) (σ : z_S) (hσ : zR σ) : zrel (zMod_inSet_b30 N σ) (Mod_inSet_b30 N (zo σ)) := by
  unfold zMod_inSet_b30 Mod_inSet_b30
  exact zr_of (zMod_inSet_b35_r N _ (by decide) _ hσ) (congr (congrArg (Mod_inSet_b35 N) (zl_1)) rfl)
def zMod_inSet_b27 (N : Nat) (s0 : Int) (s1 : Int) (σ : z_S) : Option (Int × z_S) := if s0 = s1 then zMod_inSet_b30 N σ else zMod_inSet_b34 N σ
theorem zMod_inSet_b27_r (N : Nat) (s0 : Int) (hs0 : zin s0) (s1 : Int) (hs1 : zin s1) (σ : z_S) (hσ : zR σ) : zrel (zMod_inSet_b27 N s0 s1 σ) (Mod_inSet_b27 N (zI s0) (zI s1) (zo σ)) := by
  unfold zMod_inSet_b27 Mod_inSet_b27
  refine zr_ite (zI_eq rfl rfl hs0 hs1) ?_ ?_
  · exact zr_of (zMod_inSet_b30_r N  _ hσ) (congrArg (Mod_inSet_b30 N) rfl)
  · exact zr_of (zMod_inSet_b34_r N  _ hσ) (congrArg (Mod_inSet_b34 N) rfl)
def zMod_inSet_b26 (N : Nat) (s0 : Int) (σ : z_S) : Option (Int × z_S) := zMod_inSet_b27 N s0 0 σ
theorem zMod_inSet_b26_r (N : Nat) (s0 : Int) (hs0 : zin s0) (σ : z_S) (hσ : zR σ) : zrel (zMod_inSet_b26 N s0 σ) (Mod_inSet_b26 N (zI s0) (zo σ)) := by
  unfold zMod_inSet_b26 Mod_inSet_b26
  exact zr_of (zMod_inSet_b27_r N _ hs0 _ (by decide) _ hσ) (congr (congr (congrArg (Mod_inSet_b27 N) rfl) (zl_0)) rfl)
def zMod_inSet_b22 (N : Nat) (s0 : Int) (σ : z_S) : Option (Int × z_S) := zMod_inSet_b27 N s0 1 σ
theorem zMod_inSet_b22_r (N : Nat) (s0 : Int) (hs0 : zin s0) (σ : z_S) (hσ : zR σ) : zrel (zMod_inSet_b22 N s0 σ) (Mod_inSet_b22 N (zI s0) (zo σ)) := by
  unfold zMod_inSet_b22 Mod_inSet_b22
  exact zr_of (zMod_inSet_b27_r N _ hs0 _ (by decide) _ hσ) (congr (congr (congrArg (Mod_inSet_b27 N) rfl) (zl_1)) rfl)
def zMod_inSet_b12 (N : Nat) (x0 : Int) (x1 : Int) (σ : z_S) : Option (Int × z_S) := (zMod_isDigit N x1 σ).bind fun q13 => if x0 = 100 then zMod_inSet_b22 N q13.1 q13.2 else zMod_inSet_b26 N q13.1 q13.2
theorem zMod_inSet_b12_r (N : Nat) (x0 : Int) (hx0 : zin x0) (x1 : Int) (hx1 : zin x1) (σ : z_S) (hσ : zR σ) : zrel (zMod_inSet_b12 N x0 x1 σ) (Mod_inSet_b12 N (zI x0) (zI x1) (zo σ)) := by
  unfold zMod_inSet_b12 Mod_inSet_b12
  refine zr_bind (zr_of (zMod_isDigit_r N _ hx1 _ hσ) (congr (congrArg (Mod_isDigit N) rfl) rfl)) (fun r13 s13σ hr13 hs13 => ?_)
  dsimp only
  refine zr_ite (zI_eq rfl (zl_100) hx0 (by decide)) ?_ ?_
  · exact zr_of (zMod_inSet_b22_r N _ hr13 _ hs13) (congr (congrArg (Mod_inSet_b22 N) rfl) rfl)
  · exact zr_of (zMod_inSet_b26_r N _ hr13 _ hs13) (congr (congrArg (Mod_inSet_b26 N) rfl) rfl)
def zMod_inSet_b71 (N : Nat) (s0 : Int) (σ : z_S) : Option (Int × z_S) := if zB s0 then some (s0, σ) else none
theorem zMod_inSet_b71_r (N : Nat) (s0 : Int) (hs0 : zin s0) (σ : z_S) (hσ : zR σ) : zrel (zMod_inSet_b71 N s0 σ) (Mod_inSet_b71 N (zI s0) (zo σ)) := by
  unfold zMod_inSet_b71 Mod_inSet_b71
  refine zr_gg (zg_B rfl) (fun g1 => ?_)
  exact zr_some rfl hs0 rfl hσ
def zMod_inSet_b70 (N : Nat) (σ : z_S) : Option (Int × z_S) := zMod_inSet_b71 N 0 σ
theorem zMod_inSet_b70_r (N : Nat) (σ : z_S) (hσ : zR σ) : zrel (zMod_inSet_b70 N σ) (Mod_inSet_b70 N (zo σ)) := by
  unfold zMod_inSet_b70 Mod_inSet_b70
  exact zr_of (zMod_inSet_b71_r N _ (by decide) _ hσ) (congr (congrArg (Mod_inSet_b71 N) (zl_0)) rfl)
def zMod_inSet_b66 (N : Nat) (σ : z_S) : Option (Int × z_S) := zMod_inSet_b71 N 1 σ
theorem zMod_inSet_b66_r (N : Nat) (σ : z_S) (hσ : zR σ) : zrel (zMod_inSet_b66 N σ) (Mod_inSet_b66 N (zo σ)) := by
  unfold zMod_inSet_b66 Mod_inSet_b66
  exact zr_of (zMod_inSet_b71_r N _ (by decide) _ hσ) (congr (congrArg (Mod_inSet_b71 N) (zl_1)) rfl)
def zMod_inSet_b63 (N : Nat) (s0 : Int) (s1 : Int) (σ : z_S) : Option (Int × z_S) := if s0 = s1 then zMod_inSet_b66 N σ else zMod_inSet_b70 N σ
theorem zMod_inSet_b63_r (N : Nat) (s0 : Int) (hs0 : zin s0) (s1 : Int) (hs1 : zin s1) (σ : z_S) (hσ : zR σ) : zrel (zMod_inSet_b63 N s0 s1 σ) (Mod_inSet_b63 N (zI s0) (zI s1) (zo σ)) := by
  unfold zMod_inSet_b63 Mod_inSet_b63
  refine zr_ite (zI_eq rfl rfl hs0 hs1) ?_ ?_
  · exact zr_of (zMod_inSet_b66_r N  _ hσ) (congrArg (Mod_inSet_b66 N) rfl)
  · exact zr_of (zMod_inSet_b70_r N  _ hσ) (congrArg (Mod_inSet_b70 N) rfl)
def zMod_inSet_b62 (N : Nat) (s0 : Int) (σ : z_S) : Option (Int × z_S) := zMod_inSet_b63 N s0 0 σ
theorem zMod_inSet_b62_r (N : Nat) (s0 : Int) (hs0 : zin s0) (σ : z_S) (hσ : zR σ) : zrel (zMod_inSet_b62 N s0 σ) (Mod_inSet_b62 N (zI s0) (zo σ)) := by
  unfold zMod_inSet_b62 Mod_inSet_b62
  exact zr_of (zMod_inSet_b63_r N _ hs0 _ (by decide) _ hσ) (congr (congr (congrArg (Mod_inSet_b63 N) rfl) (zl_0)) rfl)
def zMod_inSet_b58 (N : Nat) (s0 : Int) (σ : z_S) : Option (Int × z_S) := zMod_inSet_b63 N s0 1 σ
theorem zMod_inSet_b58_r (N : Nat) (s0 : Int) (hs0 : zin s0) (σ : z_S) (hσ : zR σ) : zrel (zMod_inSet_b58 N s0 σ) (Mod_inSet_b58 N (zI s0) (zo σ)) := by
  unfold zMod_inSet_b58 Mod_inSet_b58
  exact zr_of (zMod_inSet_b63_r N _ hs0 _ (by decide) _ hσ) (congr (congr (congrArg (Mod_inSet_b63 N) rfl) (zl_1)) rfl)
def zMod_inSet_b48 (N : Nat) (x0 : Int) (x1 : Int) (σ : z_S) : Option (Int × z_S) := (zMod_isWord N x1 σ).bind fun q49 => if x0 = 119 then zMod_inSet_b58 N q49.1 q49.2 else zMod_inSet_b62 N q49.1 q49.2
theorem zMod_inSet_b48_r (N : Nat) (x0 : Int) (hx0 : zin x0) (x1 : Int) (hx1 : zin x1) (σ : z_S) (hσ : zR σ) : zrel (zMod_inSet_b48 N x0 x1 σ) (Mod_inSet_b48 N (zI x0) (zI x1) (zo σ)) := by
  unfold zMod_inSet_b48 Mod_inSet_b48
  refine zr_bind (zr_of (zMod_isWord_r N _ hx1 _ hσ) (congr (congrArg (Mod_isWord N) rfl) rfl)) (fun r49 s49σ hr49 hs49 => ?_)
  dsimp only
  refine zr_ite (zI_eq rfl (zl_119) hx0 (by decide)) ?_ ?_
  · exact zr_of (zMod_inSet_b58_r N _ hr49 _ hs49) (congr (congrArg (Mod_inSet_b58 N) rfl) rfl)
  · exact zr_of (zMod_inSet_b62_r N _ hr49 _ hs49) (congr (congrArg (Mod_inSet_b62 N) rfl) rfl)
def zMod_inSet_b110 (N : Nat) (s0 : Int) (σ : z_S) : Option (Int × z_S) := if zB s0 then some (s0, σ) else none
theorem zMod_inSet_b110_r (N : Nat) (s0 : Int) (hs0 : zin s0) (σ : z_S) (hσ : zR σ) : zrel (zMod_inSet_b110 N s0 σ) (Mod_inSet_b110 N (zI s0) (zo σ)) := by
  unfold zMod_inSet_b110 Mod_inSet_b110
  refine zr_gg (zg_B rfl) (fun g1 => ?_)
  exact zr_some rfl hs0 rfl hσ
def zMod_inSet_b109 (N : Nat) (σ : z_S) : Option (Int × z_S) := zMod_inSet_b110 N 0 σ
theorem zMod_inSet_b109_r (N : Nat) (σ : z_S) (hσ : zR σ) : zrel (zMod_inSet_b109 N σ) (Mod_inSet_b109 N (zo σ)) := by
  unfold zMod_inSet_b109 Mod_inSet_b109
  exact zr_of (zMod_inSet_b110_r N _ (by decide) _ hσ) (congr (congrArg (Mod_inSet_b110 N) (zl_0)) rfl)
def zMod_inSet_b105 (N : Nat) (σ : z_S) : Option (Int × z_S) := zMod_inSet_b110 N 1 σ
theorem zMod_inSet_b105_r (N : Nat) (σ : z_S) (hσ : zR σ) : zrel (zMod_inSet_b105 N σ) (Mod_inSet_b105 N (zo σ)) := by
  unfold zMod_inSet_b105 Mod_inSet_b105
  exact zr_of (zMod_inSet_b110_r N _ (by decide) _ hσ) (congr (congrArg (Mod_inSet_b110 N) (zl_1)) rfl)
def zMod_inSet_b102 (N : Nat) (s0 : Int) (s1 : Int) (σ : z_S) : Option (Int × z_S) := if s0 = s1 then zMod_inSet_b105 N σ else zMod_inSet_b109 N σ
theorem zMod_inSet_b102_r (N : Nat) (s0 : Int) (hs0 : zin s0) (s1 : Int) (hs1 : zin s1) (σ : z_S) (hσ : zR σ) : zrel (zMod_inSet_b102 N s0 s1 σ) (Mod_inSet_b102 N (zI s0) (zI s1) (zo σ)) := by
  unfold zMod_inSet_b102 Mod_inSet_b102
  refine zr_ite (zI_eq rfl rfl hs0 hs1) ?_ ?_
  · exact zr_of (zMod_inSet_b105_r N  _ hσ) (congrArg (Mod_inSet_b105 N) rfl)
  · exact zr_of (zMod_inSet_b109_r N  _ hσ) (congrArg (Mod_inSet_b109 N) rfl)
def zMod_inSet_b101 (N : Nat) (s0 : Int) (σ : z_S) : Option (Int × z_S) := zMod_inSet_b102 N s0 0 σ
theorem zMod_inSet_b101_r (N : Nat) (s0 : Int) (hs0 : zin s0) (σ : z_S) (hσ : zR σ) : zrel (zMod_inSet_b101 N s0 σ) (Mod_inSet_b101 N (zI s0) (zo σ)) := by
  unfold zMod_inSet_b101 Mod_inSet_b101
  exact zr_of (zMod_inSet_b102_r N _ hs0 _ (by decide) _ hσ) (congr (congr (congrArg (Mod_inSet_b102 N) rfl) (zl_0)) rfl)
def zMod_inSet_b97 (N : Nat) (s0 : Int) (σ : z_S) : Option (Int × z_S) := zMod_inSet_b102 N s0 1 σ
theorem zMod_inSet_b97_r (N : Nat) (s0 : Int) (hs0 : zin s0) (σ : z_S) (hσ : zR σ) : zrel (zMod_inSet_b97 N s0 σ) (Mod_inSet_b97 N (zI s0) (zo σ)) := by
  unfold zMod_inSet_b97 Mod_inSet_b97
  exact zr_of (zMod_inSet_b102_r N _ hs0 _ (by decide) _ hσ) (congr (congr (congrArg (Mod_inSet_b102 N) rfl) (zl_1)) rfl)
def zMod_inSet_b91 (N : Nat) (x0 : Int) (s0 : Int) (σ : z_S) : Option (Int × z_S) := if x0 = 115 then zMod_inSet_b97 N s0 σ else zMod_inSet_b101 N s0 σ
theorem zMod_inSet_b91_r (N : Nat) (x0 : Int) (hx0 : zin x0) (s0 : Int) (hs0 : zin s0) (σ : z_S) (hσ : zR σ) : zrel (zMod_inSet_b91 N x0 s0 σ) (Mod_inSet_b91 N (zI x0) (zI s0) (zo σ)) := by
  unfold zMod_inSet_b91 Mod_inSet_b91
  refine zr_ite (zI_eq rfl (zl_115) hx0 (by decide)) ?_ ?_
  · exact zr_of (zMod_inSet_b97_r N _ hs0 _ hσ) (congr (congrArg (Mod_inSet_b97 N) rfl) rfl)
  · exact zr_of (zMod_inSet_b101_r N _ hs0 _ hσ) (congr (congrArg (Mod_inSet_b101 N) rfl) rfl)
def zMod_inSet_b86 (N : Nat) (x0 : Int) (σ : z_S) : Option (Int × z_S) := zMod_inSet_b91 N x0 1 σ
theorem zMod_inSet_b86_r (N : Nat) (x0 : Int) (hx0 : zin x0) (σ : z_S) (hσ : zR σ) : zrel (zMod_inSet_b86 N x0 σ) (Mod_inSet_b86 N (zI x0) (zo σ)) := by
  unfold zMod_inSet_b86 Mod_inSet_b86
  exact zr_of (zMod_inSet_b91_r N _ hx0 _ (by decide) _ hσ) (congr (congr (congrArg (Mod_inSet_b91 N) rfl) (zl_1)) rfl)
def zMod_inSet_b90 (N : Nat) (x0 : Int) (σ : z_S) : Option (Int × z_S) := zMod_inSet_b91 N x0 0 σ
theorem zMod_inSet_b90_r (N : Nat) (x0 : Int) (hx0 : zin x0) (σ : z_S) (hσ : zR σ) : zrel (zMod_inSet_b90 N x0 σ) (Mod_inSet_b90 N (zI x0) (zo σ)) := by
  unfold zMod_inSet_b90 Mod_inSet_b90
  exact zr_of (zMod_inSet_b91_r N _ hx0 _ (by decide) _ hσ) (congr (congr (congrArg (Mod_inSet_b91 N) rfl) (zl_0)) rfl)
def zMod_inSet_b79 (N : Nat) (x0 : Int) (x1 : Int) (σ : z_S) : Option (Int × z_S) := (zMod_isLineEnd N x1 σ).bind fun q80 => if q80.1 = 0 then zMod_inSet_b90 N x0 q80.2 else zMod_inSet_b86 N x0 q80.2
theorem zMod_inSet_b79_r (N : Nat) (x0 : Int) (hx0 : zin x0) (x1 : Int) (hx1 : zin x1) (σ : z_S) (hσ : zR σ) : zrel (zMod_inSet_b79 N x0 x1 σ) (Mod_inSet_b79 N (zI x0) (zI x1) (zo σ)) := by
  unfold zMod_inSet_b79 Mod_inSet_b79
  refine zr_bind (zr_of (zMod_isLineEnd_r N _ hx1 _ hσ) (congr (congrArg (Mod_isLineEnd N) rfl) rfl)) (fun r80 s80σ hr80 hs80 => ?_)
  dsimp only
  refine zr_ite (zI_eq rfl (zl_0) hr80 (by decide)) ?_ ?_
  · exact zr_of (zMod_inSet_b90_r N _ hx0 _ hs80) (congr (congrArg (Mod_inSet_b90 N) rfl) rfl)
  · exact zr_of (zMod_inSet_b86_r N _ hx0 _ hs80) (congr (congrArg (Mod_inSet_b86 N) rfl) rfl)
def zMod_inSet_b72 (N : Nat) (x0 : Int) (x1 : Int) (σ : z_S) : Option (Int × z_S) := (zMod_isBlank N x1 σ).bind fun q73 => if q73.1 = 0 then zMod_inSet_b79 N x0 x1 q73.2 else zMod_inSet_b86 N x0 q73.2
theorem zMod_inSet_b72_r (N : Nat) (x0 : Int) (hx0 : zin x0) (x1 : Int) (hx1 : zin x1) (σ : z_S) (hσ : zR σ) : zrel (zMod_inSet_b72 N x0 x1 σ) (Mod_inSet_b72 N (zI x0) (zI x1) (zo σ)) := by
  unfold zMod_inSet_b72 Mod_inSet_b72
  refine zr_bind (zr_of (zMod_isBlank_r N _ hx1 _ hσ) (congr (congrArg (Mod_isBlank N) rfl) rfl)) (fun r73 s73σ hr73 hs73 => ?_)
  dsimp only
  refine zr_ite (zI_eq rfl (zl_0) hr73 (by decide)) ?_ ?_
  · exact zr_of (zMod_inSet_b79_r N _ hx0 _ hx1 _ hs73) (congr (congr (congrArg (Mod_inSet_b79 N) rfl) rfl) rfl)
  · exact zr_of (zMod_inSet_b86_r N _ hx0 _ hs73) (congr (congrArg (Mod_inSet_b86 N) rfl) rfl)
def zMod_inSet_b42 (N : Nat) (x0 : Int) (x1 : Int) (σ : z_S) : Option (Int × z_S) := if x0 = 87 then zMod_inSet_b48 N x0 x1 σ else zMod_inSet_b72 N x0 x1 σ
theorem zMod_inSet_b42_r (N : Nat) (x0 : Int) (hx0 : zin x0) (x1 : Int) (hx1 : zin x1) (σ : z_S) (hσ : zR σ) : zrel (zMod_inSet_b42 N x0 x1 σ) (Mod_inSet_b42 N (zI x0) (zI x1) (zo σ)) := by
  unfold zMod_inSet_b42 Mod_inSet_b42
  refine zr_ite (zI_eq rfl (zl_87) hx0 (by decide)) ?_ ?_
  · exact zr_of (zMod_inSet_b48_r N _ hx0 _ hx1 _ hσ) (congr (congr (congrArg (Mod_inSet_b48 N) rfl) rfl) rfl)
  · exact zr_of (zMod_inSet_b72_r N _ hx0 _ hx1 _ hσ) (congr (congr (congrArg (Mod_inSet_b72 N) rfl) rfl) rfl)
def zMod_inSet_b36 (N : Nat) (x0 : Int) (x1 : Int) (σ : z_S) : Option (Int × z_S) := if x0 = 119 then zMod_inSet_b48 N x0 x1 σ else zMod_inSet_b42 N x0 x1 σ
theorem zMod_inSet_b36_r (N : Nat) (x0 : Int) (hx0 : zin x0) (x1 : Int) (hx1 : zin x1) (σ : z_S) (hσ : zR σ) : zrel (zMod_inSet_b36 N x0 x1 σ) (Mod_inSet_b36 N (zI x0) (zI x1) (zo σ)) := by
  unfold zMod_inSet_b36 Mod_inSet_b36
  refine zr_ite (zI_eq rfl (zl_119) hx0 (by decide)) ?_ ?_
  · exact zr_of (zMod_inSet_b48_r N _ hx0 _ hx1 _ hσ) (congr (congr (congrArg (Mod_inSet_b48 N) rfl) rfl) rfl)
  · exact zr_of (zMod_inSet_b42_r N _ hx0 _ hx1 _ hσ) (congr (congr (congrArg (Mod_inSet_b42 N) rfl) rfl) rfl)
def zMod_inSet_b6 (N : Nat) (x0 : Int) (x1 : Int) (σ : z_S) : Option (Int × z_S) := if x0 = 68 then zMod_inSet_b12 N x0 x1 σ else zMod_inSet_b36 N x0 x1 σ
theorem zMod_inSet_b6_r (N : Nat) (x0 : Int) (hx0 : zin x0) (x1 : Int) (hx1 : zin x1) (σ : z_S) (hσ : zR σ) : zrel (zMod_inSet_b6 N x0 x1 σ) (Mod_inSet_b6 N (zI x0) (zI x1) (zo σ)) := by
  unfold zMod_inSet_b6 Mod_inSet_b6
  refine zr_ite (zI_eq rfl (zl_68) hx0 (by decide)) ?_ ?_
  · exact zr_of (zMod_inSet_b12_r N _ hx0 _ hx1 _ hσ) (congr (congr (congrArg (Mod_inSet_b12 N) rfl) rfl) rfl)
  · exact zr_of (zMod_inSet_b36_r N _ hx0 _ hx1 _ hσ) (congr (congr (congrArg (Mod_inSet_b36 N) rfl) rfl) rfl)
def zMod_inSet_b0 (N : Nat) (x0 : Int) (x1 : Int) (σ : z_S) : Option (Int × z_S) := if x0 = 100 then zMod_inSet_b12 N x0 x1 σ else zMod_inSet_b6 N x0 x1 σ
theorem zMod_inSet_b0_r (N : Nat) (x0 : Int) (hx0 : zin x0) (x1 : Int) (hx1 : zin x1) (σ : z_S) (hσ : zR σ) : zrel (zMod_inSet_b0 N x0 x1 σ) (Mod_inSet_b0 N (zI x0) (zI x1) (zo σ)) := by
  unfold zMod_inSet_b0 Mod_inSet_b0
  refine zr_ite (zI_eq rfl (zl_100) hx0 (by decide)) ?_ ?_
  · exact zr_of (zMod_inSet_b12_r N _ hx0 _ hx1 _ hσ) (congr (congr (congrArg (Mod_inSet_b12 N) rfl) rfl) rfl)
  · exact zr_of (zMod_inSet_b6_r N _ hx0 _ hx1 _ hσ) (congr (congr (congrArg (Mod_inSet_b6 N) rfl) rfl) rfl)
def zMod_inSet (N : Nat) (x0 : Int) (x1 : Int) (σ : z_S) : Option (Int × z_S) := zMod_inSet_b0 N x0 x1 σ
theorem zMod_inSet_r (N : Nat) (x0 : Int) (hx0 : zin x0) (x1 : Int) (hx1 : zin x1) (σ : z_S) (hσ : zR σ) : zrel (zMod_inSet N x0 x1 σ) (Mod_inSet N (zI x0) (zI x1) (zo σ)) := by
  unfold zMod_inSet Mod_inSet
  exact zr_of (zMod_inSet_b0_r N _ hx0 _ hx1 _ hσ) (congr (congr (congrArg (Mod_inSet_b0 N) rfl) rfl) rfl)
def zMod_upper_b37 (N : Nat) (x0 : Int) (σ : z_S) : Option (Int × z_S) := if zin (x0 - 32) then some ((x0 - 32), σ) else none
theorem zMod_upper_b37_r (N : Nat) (x0 : Int) (hx0 : zin x0) (σ : z_S) (hσ : zR σ) : zrel (zMod_upper_b37 N x0 σ) (Mod_upper_b37 N (zI x0) (zo σ)) := by
  unfold zMod_upper_b37 Mod_upper_b37
  refine zr_g (fun g1 => ?_)
  exact zr_some (zI_sub rfl (zl_32)) g1 rfl hσ
def zMod_upper_b69 (N : Nat) (s0 : Int) (σ : z_S) : Option (Int × z_S) := some (s0, σ)
theorem zMod_upper_b69_r (N : Nat) (s0 : Int) (hs0 : zin s0) (σ : z_S) (hσ : zR σ) : zrel (zMod_upper_b69 N s0 σ) (Mod_upper_b69 N (zI s0) (zo σ)) := by
  unfold zMod_upper_b69 Mod_upper_b69
  exact zr_some rfl hs0 rfl hσ
def zMod_upper_b68 (N : Nat) (x0 : Int) (σ : z_S) : Option (Int × z_S) := zMod_upper_b69 N x0 σ
theorem zMod_upper_b68_r (N : Nat) (x0 : Int) (hx0 : zin x0) (σ : z_S) (hσ : zR σ) : zrel (zMod_upper_b68 N x0 σ) (Mod_upper_b68 N (zI x0) (zo σ)) := by
  unfold zMod_upper_b68 Mod_upper_b68
  exact zr_of (zMod_upper_b69_r N _ hx0 _ hσ) (congr (congrArg (Mod_upper_b69 N) rfl) rfl)
def zMod_upper_b62 (N : Nat) (σ : z_S) : Option (Int × z_S) := zMod_upper_b69 N 924 σ
theorem zMod_upper_b62_r (N : Nat) (σ : z_S) (hσ : zR σ) : zrel (zMod_upper_b62 N σ) (Mod_upper_b62 N (zo σ)) := by
  unfold zMod_upper_b62 Mod_upper_b62
  exact zr_of (zMod_upper_b69_r N _ (by decide) _ hσ) (congr (congrArg (Mod_upper_b69 N) (zl_924)) rfl)
def zMod_upper_b55 (N : Nat) (x0 : Int) (σ : z_S) : Option (Int × z_S) := if x0 = 181 then zMod_upper_b62 N σ else zMod_upper_b68 N x0 σ
theorem zMod_upper_b55_r (N : Nat) (x0 : Int) (hx0 : zin x0) (σ : z_S) (hσ : zR σ) : zrel (zMod_upper_b55 N x0 σ) (Mod_upper_b55 N (zI x0) (zo σ)) := by
  unfold zMod_upper_b55 Mod_upper_b55
  refine zr_ite (zI_eq rfl (zl_181) hx0 (by decide)) ?_ ?_
  · exact zr_of (zMod_upper_b62_r N  _ hσ) (congrArg (Mod_upper_b62 N) rfl)
  · exact zr_of (zMod_upper_b68_r N _ hx0 _ hσ) (congr (congrArg (Mod_upper_b68 N) rfl) rfl)
def zMod_upper_b49 (N : Nat) (σ : z_S) : Option (Int × z_S) := zMod_upper_b69 N 376 σ
theorem zMod_upper_b49_r (N : Nat) (σ : z_S) (hσ : zR σ) : zrel (zMod_upper_b49 N σ) (Mod_upper_b49 N (zo σ)) := by
  unfold zMod_upper_b49 Mod_upper_b49
  exact zr_of (zMod_upper_b69_r N _ (by decide) _ hσ) (congr (congrArg (Mod_upper_b69 N) (zl_376)) rfl)
def zMod_upper_b42 (N : Nat) (x0 : Int) (σ : z_S) : Option (Int × z_S) := if x0 = 255 then zMod_upper_b49 N σ else zMod_upper_b55 N x0 σ
theorem zMod_upper_b42_r (N : Nat) (x0 : Int) (hx0 : zin x0) (σ : z_S) (hσ : zR σ) : zrel (zMod_upper_b42 N x0 σ) (Mod_upper_b42 N (zI x0) (zo σ)) := by
  unfold zMod_upper_b42 Mod_upper_b42
  refine zr_ite (zI_eq rfl (zl_255) hx0 (by decide)) ?_ ?_
  · exact zr_of (zMod_upper_b49_r N  _ hσ) (congrArg (Mod_upper_b49 N) rfl)
  · exact zr_of (zMod_upper_b55_r N _ hx0 _ hσ) (congr (congrArg (Mod_upper_b55 N) rfl) rfl)
def zMod_upper_b24 (N : Nat) (x0 : Int) (σ : z_S) : Option (Int × z_S) := (zMod_in N x0 248 254 σ).bind fun q31 => if q31.1 = 0 then zMod_upper_b42 N x0 q31.2 else zMod_upper_b37 N x0 q31.2
theorem zMod_upper_b24_r (N : Nat) (x0 : Int) (hx0 : zin x0) (σ : z_S) (hσ : zR σ) : zrel (zMod_upper_b24 N x0 σ) (Mod_upper_b24 N (zI x0) (zo σ)) := by
  unfold zMod_upper_b24 Mod_upper_b24
  refine zr_bind (zr_of (zMod_in_r N _ hx0 _ (by decide) _ (by decide) _ hσ) (congr (congr (congr (congrArg (Mod_in N) rfl) (zl_248)) (zl_254)) rfl)) (fun r31 s31σ hr31 hs31 => ?_)
  dsimp only
  refine zr_ite (zI_eq rfl (zl_0) hr31 (by decide)) ?_ ?_
  · exact zr_of (zMod_upper_b42_r N _ hx0 _ hs31) (congr (congrArg (Mod_upper_b42 N) rfl) rfl)
  · exact zr_of (zMod_upper_b37_r N _ hx0 _ hs31) (congr (congrArg (Mod_upper_b37 N) rfl) rfl)
def zMod_upper_b11 (N : Nat) (x0 : Int) (σ : z_S) : Option (Int × z_S) := (zMod_in N x0 224 246 σ).bind fun q18 => if q18.1 = 0 then zMod_upper_b24 N x0 q18.2 else zMod_upper_b37 N x0 q18.2
theorem zMod_upper_b11_r (N : Nat) (x0 : Int) (hx0 : zin x0) (σ : z_S) (hσ : zR σ) : zrel (zMod_upper_b11 N x0 σ) (Mod_upper_b11 N (zI x0) (zo σ)) := by
  unfold zMod_upper_b11 Mod_upper_b11
  refine zr_bind (zr_of (zMod_in_r N _ hx0 _ (by decide) _ (by decide) _ hσ) (congr (congr (congr (congrArg (Mod_in N) rfl) (zl_224)) (zl_246)) rfl)) (fun r18 s18σ hr18 hs18 => ?_)
  dsimp only
  refine zr_ite (zI_eq rfl (zl_0) hr18 (by decide)) ?_ ?_
  · exact zr_of (zMod_upper_b24_r N _ hx0 _ hs18) (congr (congrArg (Mod_upper_b24 N) rfl) rfl)
  · exact zr_of (zMod_upper_b37_r N _ hx0 _ hs18) (congr (congrArg (Mod_upper_b37 N) rfl) rfl)
def zMod_upper_b0 (N : Nat) (x0 : Int) (σ : z_S) : Option (Int × z_S) := (zMod_in N x0 97 122 σ).bind fun q5 => if q5.1 = 0 then zMod_upper_b11 N x0 q5.2 else zMod_upper_b37 N x0 q5.2
theorem zMod_upper_b0_r (N : Nat) (x0 : Int) (hx0 : zin x0) (σ : z_S) (hσ : zR σ) : zrel (zMod_upper_b0 N x0 σ) (Mod_upper_b0 N (zI x0) (zo σ)) := by
  unfold zMod_upper_b0 Mod_upper_b0
  refine zr_bind (zr_of (zMod_in_r N _ hx0 _ (by decide) _ (by decide) _ hσ) (congr (congr (congr (congrArg (Mod_in N) rfl) (zl_97)) (zl_122)) rfl)) (fun r5 s5σ hr5 hs5 => ?_)
  dsimp only
  refine zr_ite (zI_eq rfl (zl_0) hr5 (by decide)) ?_ ?_
  · exact zr_of (zMod_upper_b11_r N _ hx0 _ hs5) (congr (congrArg (Mod_upper_b11 N) rfl) rfl)
  · exact zr_of (zMod_upper_b37_r N _ hx0 _ hs5) (congr (congrArg (Mod_upper_b37 N) rfl) rfl)
def zMod_upper (N : Nat) (x0 : Int) (σ : z_S) : Option (Int × z_S) := zMod_upper_b0 N x0 σ
theorem zMod_upper_r (N : Nat) (x0 : Int) (hx0 : zin x0) (σ : z_S) (hσ : zR σ) : zrel (zMod_upper N x0 σ) (Mod_upper N (zI x0) (zo σ)) := by
  unfold zMod_upper Mod_upper
  exact zr_of (zMod_upper_b0_r N _ hx0 _ hσ) (congr (congrArg (Mod_upper_b0 N) rfl) rfl)
def zMod_sixteen_b57 (N : Nat) (s0 : Int) (σ : z_S) : Option (Int × z_S) := some (s0, σ)
theorem zMod_sixteen_b57_r (N : Nat) (s0 : Int) (hs0 : zin s0) (σ : z_S) (hσ : zR σ) : zrel (zMod_sixteen_b57 N s0 σ) (Mod_sixteen_b57 N (zI s0) (zo σ)) := by
  unfold zMod_sixteen_b57 Mod_sixteen_b57
  exact zr_some rfl hs0 rfl hσ
def zMod_sixteen_b56 (N : Nat) (σ : z_S) : Option (Int × z_S) := zMod_sixteen_b57 N (-1) σ
theorem zMod_sixteen_b56_r (N : Nat) (σ : z_S) (hσ : zR σ) : zrel (zMod_sixteen_b56 N σ) (Mod_sixteen_b56 N (zo σ)) := by
  unfold zMod_sixteen_b56 Mod_sixteen_b56
  exact zr_of (zMod_sixteen_b57_r N _ (by decide) _ hσ) (congr (congrArg (Mod_sixteen_b57 N) (zl_m1)) rfl)
def zMod_sixteen_b46 (N : Nat) (x0 : Int) (σ : z_S) : Option (Int × z_S) := if zin (x0 - 65) then if zin ((x0 - 65) + 10) then zMod_sixteen_b57 N ((x0 - 65) + 10) σ else none else none
theorem zMod_sixteen_b46_r (N : Nat) (x0 : Int) (hx0 : zin x0) (σ : z_S) (hσ : zR σ) : zrel (zMod_sixteen_b46 N x0 σ) (Mod_sixteen_b46 N (zI x0) (zo σ)) := by
  unfold zMod_sixteen_b46 Mod_sixteen_b46
  refine zr_g (fun g1 => ?_)
  refine zr_g (fun g2 => ?_)
  exact zr_of (zMod_sixteen_b57_r N _ g2 _ hσ) (congr (congrArg (Mod_sixteen_b57 N) (zI_add (zI_sub rfl (zl_65)) (zl_10))) rfl)
def zMod_sixteen_b35 (N : Nat) (x0 : Int) (σ : z_S) : Option (Int × z_S) := (zMod_in N x0 65 70 σ).bind fun q40 => if q40.1 = 0 then zMod_sixteen_b56 N q40.2 else zMod_sixteen_b46 N x0 q40.2
theorem zMod_sixteen_b35_r (N : Nat) (x0 : Int) (hx0 : zin x0) (σ : z_S) (hσ : zR σ) : zrel (zMod_sixteen_b35 N x0 σ) (Mod_sixteen_b35 N (zI x0) (zo σ)) := by
  unfold zMod_sixteen_b35 Mod_sixteen_b35
  refine zr_bind (zr_of (zMod_in_r N _ hx0 _ (by decide) _ (by decide) _ hσ) (congr (congr (congr (congrArg (Mod_in N) rfl) (zl_65)) (zl_70)) rfl)) (fun r40 s40σ hr40 hs40 => ?_)
  dsimp only
  refine zr_ite (zI_eq rfl (zl_0) hr40 (by decide)) ?_ ?_
  · exact zr_of (zMod_sixteen_b56_r N  _ hs40) (congrArg (Mod_sixteen_b56 N) rfl)
  · exact zr_of (zMod_sixteen_b46_r N _ hx0 _ hs40) (congr (congrArg (Mod_sixteen_b46 N) rfl) rfl)
def zMod_sixteen_b25 (N : Nat) (x0 : Int) (σ : z_S) : Option (Int × z_S) := if zin (x0 - 97) then if zin ((x0 - 97) + 10) then zMod_sixteen_b57 N ((x0 - 97) + 10) σ else none else none
theorem zMod_sixteen_b25_r (N : Nat) (x0 : Int) (hx0 : zin x0) (σ : z_S) (hσ : zR σ) : zrel (zMod_sixteen_b25 N x0 σ) (Mod_sixteen_b25 N (zI x0) (zo σ)) := by
  unfold zMod_sixteen_b25 Mod_sixteen_b25
  refine zr_g (fun g1 => ?_)
  refine zr_g (fun g2 => ?_)
  exact zr_of (zMod_sixteen_b57_r N _ g2 _ hσ) (congr (congrArg (Mod_sixteen_b57 N) (zI_add (zI_sub rfl (zl_97)) (zl_10))) rfl)
def zMod_sixteen_b14 (N : Nat) (x0 : Int) (σ : z_S) : Option (Int × z_S) := (zMod_in N x0 97 102 σ).bind fun q19 => if q19.1 = 0 then zMod_sixteen_b35 N x0 q19.2 else zMod_sixteen_b25 N x0 q19.2
theorem zMod_sixteen_b14_r (N : Nat) (x0 : Int) (hx0 : zin x0) (σ : z_S) (hσ : zR σ) : zrel (zMod_sixteen_b14 N x0 σ) (Mod_sixteen_b14 N (zI x0) (zo σ)) := by
  unfold zMod_sixteen_b14 Mod_sixteen_b14
  refine zr_bind (zr_of (zMod_in_r N _ hx0 _ (by decide) _ (by decide) _ hσ) (congr (congr (congr (congrArg (Mod_in N) rfl) (zl_97)) (zl_102)) rfl)) (fun r19 s19σ hr19 hs19 => ?_)
  dsimp only
  refine zr_ite (zI_eq rfl (zl_0) hr19 (by decide)) ?_ ?_
  · exact zr_of (zMod_sixteen_b35_r N _ hx0 _ hs19) (congr (congrArg (Mod_sixteen_b35 N) rfl) rfl)
  · exact zr_of (zMod_sixteen_b25_r N _ hx0 _ hs19) (congr (congrArg (Mod_sixteen_b25 N) rfl) rfl)
def zMod_sixteen_b7 (N : Nat) (x0 : Int) (σ : z_S) : Option (Int × z_S) := if zin (x0 - 48) then zMod_sixteen_b57 N (x0 - 48) σ else none
theorem zMod_sixteen_b7_r (N : Nat) (x0 : Int) (hx0 : zin x0) (σ : z_S) (hσ : zR σ) : zrel (zMod_sixteen_b7 N x0 σ) (Mod_sixteen_b7 N (zI x0) (zo σ)) := by
  unfold zMod_sixteen_b7 Mod_sixteen_b7
  refine zr_g (fun g1 => ?_)
  exact zr_of (zMod_sixteen_b57_r N _ g1 _ hσ) (congr (congrArg (Mod_sixteen_b57 N) (zI_sub rfl (zl_48))) rfl)
def zMod_sixteen_b0 (N : Nat) (x0 : Int) (σ : z_S) : Option (Int × z_S) := (zMod_isDigit N x0 σ).bind fun q1 => if q1.1 = 0 then zMod_sixteen_b14 N x0 q1.2 else zMod_sixteen_b7 N x0 q1.2
theorem zMod_sixteen_b0_r (N : Nat) (x0 : Int) (hx0 : zin x0) (σ : z_S) (hσ : zR σ) : zrel (zMod_sixteen_b0 N x0 σ) (Mod_sixteen_b0 N (zI x0) (zo σ)) := by
  unfold zMod_sixteen_b0 Mod_sixteen_b0
  refine zr_bind (zr_of (zMod_isDigit_r N _ hx0 _ hσ) (congr (congrArg (Mod_isDigit N) rfl) rfl)) (fun r1 s1σ hr1 hs1 => ?_)
  dsimp only
  refine zr_ite (zI_eq rfl (zl_0) hr1 (by decide)) ?_ ?_
  · exact zr_of (zMod_sixteen_b14_r N _ hx0 _ hs1) (congr (congrArg (Mod_sixteen_b14 N) rfl) rfl)
  · exact zr_of (zMod_sixteen_b7_r N _ hx0 _ hs1) (congr (congrArg (Mod_sixteen_b7 N) rfl) rfl)
def zMod_sixteen (N : Nat) (x0 : Int) (σ : z_S) : Option (Int × z_S) := zMod_sixteen_b0 N x0 σ
theorem zMod_sixteen_r (N : Nat) (x0 : Int) (hx0 : zin x0) (σ : z_S) (hσ : zR σ) : zrel (zMod_sixteen N x0 σ) (Mod_sixteen N (zI x0) (zo σ)) := by
  unfold zMod_sixteen Mod_sixteen
  exact zr_of (zMod_sixteen_b0_r N _ hx0 _ hσ) (congr (congrArg (Mod_sixteen_b0 N) rfl) rfl)
def zMod_see_b28 (N : Nat) (s0 : Int) (σ : z_S) : Option (Int × z_S) := some (s0, σ)
theorem zMod_see_b28_r (N : Nat) (s0 : Int) (hs0 : zin s0) (σ : z_S) (hσ : zR σ) : zrel (zMod_see_b28 N s0 σ) (Mod_see_b28 N (zI s0) (zo σ)) := by
  unfold zMod_see_b28 Mod_see_b28
  exact zr_some rfl hs0 rfl hσ
def zMod_see_b27 (N : Nat) (σ : z_S) : Option (Int × z_S) := zMod_see_b28 N (-1) σ
theorem zMod_see_b27_r (N : Nat) (σ : z_S) (hσ : zR σ) : zrel (zMod_see_b27 N σ) (Mod_see_b27 N (zo σ)) := by
  unfold zMod_see_b27 Mod_see_b27
  exact zr_of (zMod_see_b28_r N _ (by decide) _ hσ) (congr (congrArg (Mod_see_b28 N) (zl_m1)) rfl)
def zMod_see_b13 (N : Nat) (x1 : Int) (σ : z_S) : Option (Int × z_S) := if zin ((σ.1 11) + x1) then if zIn ((σ.1 11) + x1) 200 then zMod_see_b28 N (σ.2 1 (((σ.1 11) + x1)).toNat) σ else none else none
theorem zMod_see_b13_r (N : Nat) (x1 : Int) (hx1 : zin x1) (σ : z_S) (hσ : zR σ) : zrel (zMod_see_b13 N x1 σ) (Mod_see_b13 N (zI x1) (zo σ)) := by
  unfold zMod_see_b13 Mod_see_b13
  refine zr_g (fun g1 => ?_)
  refine zr_gg (zg_in (zI_add (zo_fld rfl 11) rfl) g1) (fun g2 => ?_)
  exact zr_of (zMod_see_b28_r N _ (hσ.2 1 _) _ hσ) (congr (congrArg (Mod_see_b28 N) (zo_get (j := 1) rfl (zI_add (zo_fld rfl 11) rfl) g1)) rfl)
def zMod_see_b0 (N : Nat) (x1 : Int) (σ : z_S) : Option (Int × z_S) := if zin ((σ.1 11) + x1) then if (σ.1 2) ≤ ((σ.1 11) + x1) then zMod_see_b27 N σ else zMod_see_b13 N x1 σ else none
theorem zMod_see_b0_r (N : Nat) (x1 : Int) (hx1 : zin x1) (σ : z_S) (hσ : zR σ) : zrel (zMod_see_b0 N x1 σ) (Mod_see_b0 N (zI x1) (zo σ)) := by
  unfold zMod_see_b0 Mod_see_b0
  refine zr_g (fun g1 => ?_)
  refine zr_ite (zI_le (zo_fld rfl 2) (zI_add (zo_fld rfl 11) rfl) (hσ.1 2) g1) ?_ ?_
  · exact zr_of (zMod_see_b27_r N  _ hσ) (congrArg (Mod_see_b27 N) rfl)
  · exact zr_of (zMod_see_b13_r N _ hx1 _ hσ) (congr (congrArg (Mod_see_b13 N) rfl) rfl)
def zMod_see (N : Nat) (x1 : Int) (σ : z_S) : Option (Int × z_S) := zMod_see_b0 N x1 σ
theorem zMod_see_r (N : Nat) (x1 : Int) (hx1 : zin x1) (σ : z_S) (hσ : zR σ) : zrel (zMod_see N x1 σ) (Mod_see N (zI x1) (zo σ)) := by
  unfold zMod_see Mod_see
  exact zr_of (zMod_see_b0_r N _ hx1 _ hσ) (congr (congrArg (Mod_see_b0 N) rfl) rfl)
def zMod_fail_b12 (N : Nat) (σ : z_S) : Option (Int × z_S) := some (0, σ)
theorem zMod_fail_b12_r (N : Nat) (σ : z_S) (hσ : zR σ) : zrel (zMod_fail_b12 N σ) (Mod_fail_b12 N (zo σ)) := by
  unfold zMod_fail_b12 Mod_fail_b12
  exact zr_some (zl_0) (by decide) rfl hσ
def zMod_fail_b7 (N : Nat) (x1 : Int) (σ : z_S) : Option (Int × z_S) := zMod_fail_b12 N (zF σ 12 x1)
theorem zMod_fail_b7_r (N : Nat) (x1 : Int) (hx1 : zin x1) (σ : z_S) (hσ : zR σ) : zrel (zMod_fail_b7 N x1 σ) (Mod_fail_b7 N (zI x1) (zo σ)) := by
  unfold zMod_fail_b7 Mod_fail_b7
  exact zr_of (zMod_fail_b12_r N  _ (zR_F (k := 12) hσ hx1)) (congrArg (Mod_fail_b12 N) (zo_F (k := 12) rfl rfl))
def zMod_fail_b0 (N : Nat) (x1 : Int) (σ : z_S) : Option (Int × z_S) := if (0 : Int) ≤ (σ.1 12) then zMod_fail_b12 N σ else zMod_fail_b7 N x1 σ
theorem zMod_fail_b0_r (N : Nat) (x1 : Int) (hx1 : zin x1) (σ : z_S) (hσ : zR σ) : zrel (zMod_fail_b0 N x1 σ) (Mod_fail_b0 N (zI x1) (zo σ)) := by
  unfold zMod_fail_b0 Mod_fail_b0
  refine zr_ite (zI_le (zl_0) (zo_fld rfl 12) (by decide) (hσ.1 12)) ?_ ?_
  · exact zr_of (zMod_fail_b12_r N  _ hσ) (congrArg (Mod_fail_b12 N) rfl)
  · exact zr_of (zMod_fail_b7_r N _ hx1 _ hσ) (congr (congrArg (Mod_fail_b7 N) rfl) rfl)
def zMod_fail (N : Nat) (x1 : Int) (σ : z_S) : Option (Int × z_S) := zMod_fail_b0 N x1 σ
theorem zMod_fail_r (N : Nat) (x1 : Int) (hx1 : zin x1) (σ : z_S) (hσ : zR σ) : zrel (zMod_fail N x1 σ) (Mod_fail N (zI x1) (zo σ)) := by
  unfold zMod_fail Mod_fail
  exact zr_of (zMod_fail_b0_r N _ hx1 _ hσ) (congr (congrArg (Mod_fail_b0 N) rfl) rfl)
def zMod_node_b0 (N : Nat) (x1 : Int) (x2 : Int) (x3 : Int) (x4 : Int) (σ : z_S) : Option (Int × z_S) := if zIn (σ.1 8) 1300 then if zin ((σ.1 8) + 1) then if zin (((σ.1 8) + 1) - 1) then some ((((σ.1 8) + 1) - 1), (zF (zA (zA (zA (zA (zA (zA (zA (zA (zA σ 3 ((σ.1 8)).toNat x1) 4 ((σ.1 8)).toNat x2) 5 ((σ.1 8)).toNat x3) 6 ((σ.1 8)).toNat x4) 7 ((σ.1 8)).toNat (-1)) 8 ((σ.1 8)).toNat (-1)) 9 ((σ.1 8)).toNat (-1)) 10 ((σ.1 8)).toNat (σ.1 9)) 11 ((σ.1 8)).toNat (σ.1 9)) 8 ((σ.1 8) + 1))) else none else none else none
theorem zMod_node_b0_r (N : Nat) (x1 : Int) (hx1 : zin x1) (x2 : Int) (hx2 : zin x2) (x3 : Int) (hx3 : zin x3) (x4 : Int) (hx4 : zin x4) (σ : z_S) (hσ : zR σ) : zrel (zMod_node_b0 N x1 x2 x3 x4 σ) (Mod_node_b0 N (zI x1) (zI x2) (zI x3) (zI x4) (zo σ)) := by
  unfold zMod_node_b0 Mod_node_b0
  refine zr_gg (zg_in (zo_fld rfl 8) (hσ.1 8)) (fun g1 => ?_)
  refine zr_g (fun g2 => ?_)
  refine zr_g (fun g3 => ?_)
  exact zr_some (zI_sub (zI_add (zo_fld rfl 8) (zl_1)) (zl_1)) g3 (zo_F (k := 8) (zo_A (a := 11) (zo_A (a := 10) (zo_A (a := 9) (zo_A (a := 8) (zo_A (a := 7) (zo_A (a := 6) (zo_A (a := 5) (zo_A (a := 4) (zo_A (a := 3) rfl (zo_fld rfl 8) (hσ.1 8) rfl) (zo_fld rfl 8) (hσ.1 8) rfl) (zo_fld rfl 8) (hσ.1 8) rfl) (zo_fld rfl 8) (hσ.1 8) rfl) (zo_fld rfl 8) (hσ.1 8) (zl_m1)) (zo_fld rfl 8) (hσ.1 8) (zl_m1)) (zo_fld rfl 8) (hσ.1 8) (zl_m1)) (zo_fld rfl 8) (hσ.1 8) (zo_fld rfl 9)) (zo_fld rfl 8) (hσ.1 8) (zo_fld rfl 9)) (zI_add (zo_fld rfl 8) (zl_1))) (zR_F (k := 8) (zR_A (a := 11) (i := _) (zR_A (a := 10) (i := _) (zR_A (a := 9) (i := _) (zR_A (a := 8) (i := _) (zR_A (a := 7) (i := _) (zR_A (a := 6) (i := _) (zR_A (a := 5) (i := _) (zR_A (a := 4) (i := _) (zR_A (a := 3) (i := _) hσ hx1) hx2) hx3) hx4) (by decide)) (by decide)) (by decide)) (hσ.1 9)) (hσ.1 9)) g2)
def zMod_node (N : Nat) (x1 : Int) (x2 : Int) (x3 : Int) (x4 : Int) (σ : z_S) : Option (Int × z_S) := zMod_node_b0 N x1 x2 x3 x4 σ
theorem zMod_node_r (N : Nat) (x1 : Int) (hx1 : zin x1) (x2 : Int) (hx2 : zin x2) (x3 : Int) (hx3 : zin x3) (x4 : Int) (hx4 : zin x4) (σ : z_S) (hσ : zR σ) : zrel (zMod_node N x1 x2 x3 x4 σ) (Mod_node N (zI x1) (zI x2) (zI x3) (zI x4) (zo σ)) := by
  unfold zMod_node Mod_node
  exact zr_of (zMod_node_b0_r N _ hx1 _ hx2 _ hx3 _ hx4 _ hσ) (congr (congr (congr (congr (congrArg (Mod_node_b0 N) rfl) rfl) rfl) rfl) rfl)
