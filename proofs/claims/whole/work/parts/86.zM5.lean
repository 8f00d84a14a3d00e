def zMod_push_b68 (N : Nat) (σ : z_S) : Option (Int × z_S) := if zin ((σ.1 19) + 1) then some (0, (zF σ 19 ((σ.1 19) + 1))) else none
theorem zMod_push_b68_r (N : Nat) (σ : z_S) (hσ : zR σ) : zrel (zMod_push_b68 N σ) (Mod_push_b68 N (zo σ)) := by
  unfold zMod_push_b68 Mod_push_b68
  refine zr_g (fun g1 => ?_)
  exact zr_some (zl_0) (by decide) (zo_F (k := 19) rfl (zI_add (zo_fld rfl 19) (zl_1))) (zR_F (k := 19) hσ g1)
def zMod_push_b40 (N : Nat) (k33 : Int → z_S → Option (Int × z_S)) (x4 : Int) (σ : z_S) : Option (Int × z_S) := if zIn x4 42 then if zin (42 * (σ.1 19)) then if zin ((42 * (σ.1 19)) + x4) then if zIn ((42 * (σ.1 19)) + x4) 672000 then if zin (x4 + 1) then k33 (x4 + 1) (zA σ 27 (((42 * (σ.1 19)) + x4)).toNat (σ.2 17 (x4).toNat)) else none else none else none else none else none
theorem zMod_push_b40_r (N : Nat) (k33 : Int → z_S → Option (Int × z_S)) (k33' : Int32 → g_S → Option (Int32 × g_S)) (hk33 : ∀ (y0 : Int) (_ : zin y0) (σ : z_S), zR σ → zrel (k33 y0 σ) (k33' (zI y0) (zo σ))) (x4 : Int) (hx4 : zin x4) (σ : z_S) (hσ : zR σ) : zrel (zMod_push_b40 N k33 x4 σ) (Mod_push_b40 N k33' (zI x4) (zo σ)) := by
  unfold zMod_push_b40 Mod_push_b40
  refine zr_gg (zg_in rfl hx4) (fun g1 => ?_)
  refine zr_g (fun g2 => ?_)
  refine zr_g (fun g3 => ?_)
  refine zr_gg (zg_in (zI_add (zI_mul (zl_42) (zo_fld rfl 19)) rfl) g3) (fun g4 => ?_)
  refine zr_g (fun g5 => ?_)
  exact zr_of (hk33 _ g5 _ (zR_A (a := 27) (i := _) hσ (hσ.2 17 _))) (congr (congrArg (k33') (zI_add rfl (zl_1))) (zo_A (a := 27) rfl (zI_add (zI_mul (zl_42) (zo_fld rfl 19)) rfl) g3 (zo_get (j := 17) rfl rfl hx4)))
def zMod_push_b33 (N : Nat) (k33 : Int → z_S → Option (Int × z_S)) (x4 : Int) (σ : z_S) : Option (Int × z_S) := if (42 : Int) ≤ x4 then zMod_push_b68 N σ else zMod_push_b40 N k33 x4 σ
theorem zMod_push_b33_r (N : Nat) (k33 : Int → z_S → Option (Int × z_S)) (k33' : Int32 → g_S → Option (Int32 × g_S)) (hk33 : ∀ (y0 : Int) (_ : zin y0) (σ : z_S), zR σ → zrel (k33 y0 σ) (k33' (zI y0) (zo σ))) (x4 : Int) (hx4 : zin x4) (σ : z_S) (hσ : zR σ) : zrel (zMod_push_b33 N k33 x4 σ) (Mod_push_b33 N k33' (zI x4) (zo σ)) := by
  unfold zMod_push_b33 Mod_push_b33
  refine zr_ite (zI_le (zl_42) rfl (by decide) hx4) ?_ ?_
  · exact zr_of (zMod_push_b68_r N  _ hσ) (congrArg (Mod_push_b68 N) rfl)
  · exact zr_of (zMod_push_b40_r N k33 k33' hk33 _ hx4 _ hσ) (congr (congrArg (Mod_push_b40 N k33') rfl) rfl)
def zMod_push_l33 (N : Nat) : Nat → Int → z_S → Option (Int × z_S)
  | 0 => fun _ _ => none
  | n + 1 => fun x4 σ => zMod_push_b33 N (zMod_push_l33 N n) x4 σ
theorem zMod_push_l33_r (N : Nat) (n : Nat) : ∀ (x4 : Int) (hx4 : zin x4) (σ : z_S) (_ : zR σ), zrel (zMod_push_l33 N n x4 σ) (Mod_push_l33 N n (zI x4) (zo σ)) := by
  induction n with
  | zero => intro x4 hx4 σ hσ r s h; cases h
  | succ n ih => intro x4 hx4 σ hσ; exact zMod_push_b33_r N _ _ (fun x4 hx4 σ hσ => ih x4 hx4 σ hσ) x4 hx4 σ hσ
def zMod_push_b0 (N : Nat) (x1 : Int) (x2 : Int) (x3 : Int) (σ : z_S) : Option (Int × z_S) := if zIn (σ.1 19) 16000 then zMod_push_l33 N N 0 (zA (zA (zA σ 24 ((σ.1 19)).toNat x1) 25 ((σ.1 19)).toNat x2) 26 ((σ.1 19)).toNat x3) else none
theorem zMod_push_b0_r (N : Nat) (x1 : Int) (hx1 : zin x1) (x2 : Int) (hx2 : zin x2) (x3 : Int) (hx3 : zin x3) (σ : z_S) (hσ : zR σ) : zrel (zMod_push_b0 N x1 x2 x3 σ) (Mod_push_b0 N (zI x1) (zI x2) (zI x3) (zo σ)) := by
  unfold zMod_push_b0 Mod_push_b0
  refine zr_gg (zg_in (zo_fld rfl 19) (hσ.1 19)) (fun g1 => ?_)
  exact zr_of (zMod_push_l33_r N N _ (by decide) _ (zR_A (a := 26) (i := _) (zR_A (a := 25) (i := _) (zR_A (a := 24) (i := _) hσ hx1) hx2) hx3)) (congr (congrArg (Mod_push_l33 N N) (zl_0)) (zo_A (a := 26) (zo_A (a := 25) (zo_A (a := 24) rfl (zo_fld rfl 19) (hσ.1 19) rfl) (zo_fld rfl 19) (hσ.1 19) rfl) (zo_fld rfl 19) (hσ.1 19) rfl))
def zMod_push (N : Nat) (x1 : Int) (x2 : Int) (x3 : Int) (σ : z_S) : Option (Int × z_S) := zMod_push_b0 N x1 x2 x3 σ
theorem zMod_push_r (N : Nat) (x1 : Int) (hx1 : zin x1) (x2 : Int) (hx2 : zin x2) (x3 : Int) (hx3 : zin x3) (σ : z_S) (hσ : zR σ) : zrel (zMod_push N x1 x2 x3 σ) (Mod_push N (zI x1) (zI x2) (zI x3) (zo σ)) := by
  unfold zMod_push Mod_push
  exact zr_of (zMod_push_b0_r N _ hx1 _ hx2 _ hx3 _ hσ) (congr (congr (congr (congrArg (Mod_push_b0 N) rfl) rfl) rfl) rfl)
def zMod_pop_b99 (N : Nat) (x1 : Int) (σ : z_S) : Option (Int × z_S) := some (x1, σ)
theorem zMod_pop_b99_r (N : Nat) (x1 : Int) (hx1 : zin x1) (σ : z_S) (hσ : zR σ) : zrel (zMod_pop_b99 N x1 σ) (Mod_pop_b99 N (zI x1) (zo σ)) := by
  unfold zMod_pop_b99 Mod_pop_b99
  exact zr_some rfl hx1 rfl hσ
def zMod_pop_b96 (N : Nat) (k2 : Int → z_S → Option (Int × z_S)) (x1 : Int) (σ : z_S) : Option (Int × z_S) := k2 x1 σ
theorem zMod_pop_b96_r (N : Nat) (k2 : Int → z_S → Option (Int × z_S)) (k2' : Int32 → g_S → Option (Int32 × g_S)) (hk2 : ∀ (y0 : Int) (_ : zin y0) (σ : z_S), zR σ → zrel (k2 y0 σ) (k2' (zI y0) (zo σ))) (x1 : Int) (hx1 : zin x1) (σ : z_S) (hσ : zR σ) : zrel (zMod_pop_b96 N k2 x1 σ) (Mod_pop_b96 N k2' (zI x1) (zo σ)) := by
  unfold zMod_pop_b96 Mod_pop_b96
  exact zr_of (hk2 _ hx1 _ hσ) (congr (congrArg (k2') rfl) rfl)
def zMod_pop_b70 (N : Nat) (k2 : Int → z_S → Option (Int × z_S)) (k64 : Int → Int → z_S → Option (Int × z_S)) (x1 : Int) (x2 : Int) (σ : z_S) : Option (Int × z_S) := if zin (42 * (σ.1 19)) then if zin ((42 * (σ.1 19)) + x2) then if zIn ((42 * (σ.1 19)) + x2) 672000 then if zIn x2 42 then if zin (x2 + 1) then k64 x1 (x2 + 1) (zA σ 17 (x2).toNat (σ.2 27 (((42 * (σ.1 19)) + x2)).toNat)) else none else none else none else none else none
theorem zMod_pop_b70_r (N : Nat) (k2 : Int → z_S → Option (Int × z_S)) (k2' : Int32 → g_S → Option (Int32 × g_S)) (hk2 : ∀ (y0 : Int) (_ : zin y0) (σ : z_S), zR σ → zrel (k2 y0 σ) (k2' (zI y0) (zo σ))) (k64 : Int → Int → z_S → Option (Int × z_S)) (k64' : Int32 → Int32 → g_S → Option (Int32 × g_S)) (hk64 : ∀ (y0 : Int) (_ : zin y0) (y1 : Int) (_ : zin y1) (σ : z_S), zR σ → zrel (k64 y0 y1 σ) (k64' (zI y0) (zI y1) (zo σ))) (x1 : Int) (hx1 : zin x1) (x2 : Int) (hx2 : zin x2) (σ : z_S) (hσ : zR σ) : zrel (zMod_pop_b70 N k2 k64 x1 x2 σ) (Mod_pop_b70 N k2' k64' (zI x1) (zI x2) (zo σ)) := by
  unfold zMod_pop_b70 Mod_pop_b70
  refine zr_g (fun g1 => ?_)
  refine zr_g (fun g2 => ?_)
  refine zr_gg (zg_in (zI_add (zI_mul (zl_42) (zo_fld rfl 19)) rfl) g2) (fun g3 => ?_)
  refine zr_gg (zg_in rfl hx2) (fun g4 => ?_)
  refine zr_g (fun g5 => ?_)
  exact zr_of (hk64 _ hx1 _ g5 _ (zR_A (a := 17) (i := _) hσ (hσ.2 27 _))) (congr (congr (congrArg (k64') rfl) (zI_add rfl (zl_1))) (zo_A (a := 17) rfl rfl hx2 (zo_get (j := 27) rfl (zI_add (zI_mul (zl_42) (zo_fld rfl 19)) rfl) g2)))
def zMod_pop_b64 (N : Nat) (k2 : Int → z_S → Option (Int × z_S)) (k64 : Int → Int → z_S → Option (Int × z_S)) (x1 : Int) (x2 : Int) (σ : z_S) : Option (Int × z_S) := if (42 : Int) ≤ x2 then zMod_pop_b96 N k2 x1 σ else zMod_pop_b70 N k2 k64 x1 x2 σ
theorem zMod_pop_b64_r (N : Nat) (k2 : Int → z_S → Option (Int × z_S)) (k2' : Int32 → g_S → Option (Int32 × g_S)) (hk2 : ∀ (y0 : Int) (_ : zin y0) (σ : z_S), zR σ → zrel (k2 y0 σ) (k2' (zI y0) (zo σ))) (k64 : Int → Int → z_S → Option (Int × z_S)) (k64' : Int32 → Int32 → g_S → Option (Int32 × g_S)) (hk64 : ∀ (y0 : Int) (_ : zin y0) (y1 : Int) (_ : zin y1) (σ : z_S), zR σ → zrel (k64 y0 y1 σ) (k64' (zI y0) (zI y1) (zo σ))) (x1 : Int) (hx1 : zin x1) (x2 : Int) (hx2 : zin x2) (σ : z_S) (hσ : zR σ) : zrel (zMod_pop_b64 N k2 k64 x1 x2 σ) (Mod_pop_b64 N k2' k64' (zI x1) (zI x2) (zo σ)) := by
  unfold zMod_pop_b64 Mod_pop_b64
  refine zr_ite (zI_le (zl_42) rfl (by decide) hx2) ?_ ?_
  · exact zr_of (zMod_pop_b96_r N k2 k2' hk2 _ hx1 _ hσ) (congr (congrArg (Mod_pop_b96 N k2') rfl) rfl)
  · exact zr_of (zMod_pop_b70_r N k2 k2' hk2 k64 k64' hk64 _ hx1 _ hx2 _ hσ) (congr (congr (congrArg (Mod_pop_b70 N k2' k64') rfl) rfl) rfl)
def zMod_pop_l64 (N : Nat) (k2 : Int → z_S → Option (Int × z_S)) : Nat → Int → Int → z_S → Option (Int × z_S)
  | 0 => fun _ _ _ => none
  | n + 1 => fun x1 x2 σ => zMod_pop_b64 N k2 (zMod_pop_l64 N k2 n) x1 x2 σ
theorem zMod_pop_l64_r (N : Nat) (k2 : Int → z_S → Option (Int × z_S)) (k2' : Int32 → g_S → Option (Int32 × g_S)) (hk2 : ∀ (y0 : Int) (_ : zin y0) (σ : z_S), zR σ → zrel (k2 y0 σ) (k2' (zI y0) (zo σ))) (n : Nat) : ∀ (x1 : Int) (hx1 : zin x1) (x2 : Int) (hx2 : zin x2) (σ : z_S) (_ : zR σ), zrel (zMod_pop_l64 N k2 n x1 x2 σ) (Mod_pop_l64 N k2' n (zI x1) (zI x2) (zo σ)) := by
  induction n with
  | zero => intro x1 hx1 x2 hx2 σ hσ r s h; cases h
  | succ n ih => intro x1 hx1 x2 hx2 σ hσ; exact zMod_pop_b64_r N k2 k2' hk2 _ _ (fun x1 hx1 x2 hx2 σ hσ => ih x1 hx1 x2 hx2 σ hσ) x1 hx1 x2 hx2 σ hσ
def zMod_pop_b39 (N : Nat) (k2 : Int → z_S → Option (Int × z_S)) (σ : z_S) : Option (Int × z_S) := if zIn (σ.1 19) 16000 then zMod_pop_l64 N k2 N (σ.2 24 ((σ.1 19)).toNat) 0 (zF σ 11 (σ.2 25 ((σ.1 19)).toNat)) else none
theorem zMod_pop_b39_r (N : Nat) (k2 : Int → z_S → Option (Int × z_S)) (k2' : Int32 → g_S → Option (Int32 × g_S)) (hk2 : ∀ (y0 : Int) (_ : zin y0) (σ : z_S), zR σ → zrel (k2 y0 σ) (k2' (zI y0) (zo σ))) (σ : z_S) (hσ : zR σ) : zrel (zMod_pop_b39 N k2 σ) (Mod_pop_b39 N k2' (zo σ)) := by
  unfold zMod_pop_b39 Mod_pop_b39
  refine zr_gg (zg_in (zo_fld rfl 19) (hσ.1 19)) (fun g1 => ?_)
  exact zr_of (zMod_pop_l64_r N k2 k2' hk2 N _ (hσ.2 24 _) _ (by decide) _ (zR_F (k := 11) hσ (hσ.2 25 _))) (congr (congr (congrArg (Mod_pop_l64 N k2' N) (zo_get (j := 24) rfl (zo_fld rfl 19) (hσ.1 19))) (zl_0)) (zo_F (k := 11) rfl (zo_get (j := 25) rfl (zo_fld rfl 19) (hσ.1 19))))
def zMod_pop_b36 (N : Nat) (k2 : Int → z_S → Option (Int × z_S)) (x1 : Int) (σ : z_S) : Option (Int × z_S) := k2 x1 σ
theorem zMod_pop_b36_r (N : Nat) (k2 : Int → z_S → Option (Int × z_S)) (k2' : Int32 → g_S → Option (Int32 × g_S)) (hk2 : ∀ (y0 : Int) (_ : zin y0) (σ : z_S), zR σ → zrel (k2 y0 σ) (k2' (zI y0) (zo σ))) (x1 : Int) (hx1 : zin x1) (σ : z_S) (hσ : zR σ) : zrel (zMod_pop_b36 N k2 x1 σ) (Mod_pop_b36 N k2' (zI x1) (zo σ)) := by
  unfold zMod_pop_b36 Mod_pop_b36
  exact zr_of (hk2 _ hx1 _ hσ) (congr (congrArg (k2') rfl) rfl)
def zMod_pop_b13 (N : Nat) (k2 : Int → z_S → Option (Int × z_S)) (x1 : Int) (σ : z_S) : Option (Int × z_S) := if zin ((σ.1 19) - 1) then if zIn ((σ.1 19) - 1) 16000 then if (σ.2 26 (((σ.1 19) - 1)).toNat) = 1 then zMod_pop_b36 N k2 x1 (zF σ 19 ((σ.1 19) - 1)) else zMod_pop_b39 N k2 (zF σ 19 ((σ.1 19) - 1)) else none else none
theorem zMod_pop_b13_r (N : Nat) (k2 : Int → z_S → Option (Int × z_S)) (k2' : Int32 → g_S → Option (Int32 × g_S)) (hk2 : ∀ (y0 : Int) (_ : zin y0) (σ : z_S), zR σ → zrel (k2 y0 σ) (k2' (zI y0) (zo σ))) (x1 : Int) (hx1 : zin x1) (σ : z_S) (hσ : zR σ) : zrel (zMod_pop_b13 N k2 x1 σ) (Mod_pop_b13 N k2' (zI x1) (zo σ)) := by
  unfold zMod_pop_b13 Mod_pop_b13
  refine zr_g (fun g1 => ?_)
  refine zr_gg (zg_in (zI_sub (zo_fld rfl 19) (zl_1)) g1) (fun g2 => ?_)
  refine zr_ite (zI_eq (zo_get (j := 26) rfl (zI_sub (zo_fld rfl 19) (zl_1)) g1) (zl_1) (hσ.2 26 _) (by decide)) ?_ ?_
  · exact zr_of (zMod_pop_b36_r N k2 k2' hk2 _ hx1 _ (zR_F (k := 19) hσ g1)) (congr (congrArg (Mod_pop_b36 N k2') rfl) (zo_F (k := 19) rfl (zI_sub (zo_fld rfl 19) (zl_1))))
  · exact zr_of (zMod_pop_b39_r N k2 k2' hk2  _ (zR_F (k := 19) hσ g1)) (congrArg (Mod_pop_b39 N k2') (zo_F (k := 19) rfl (zI_sub (zo_fld rfl 19) (zl_1))))
def zMod_pop_b6 (N : Nat) (k2 : Int → z_S → Option (Int × z_S)) (x1 : Int) (σ : z_S) : Option (Int × z_S) := if (σ.1 19) ≤ 0 then zMod_pop_b99 N x1 σ else zMod_pop_b13 N k2 x1 σ
theorem zMod_pop_b6_r (N : Nat) (k2 : Int → z_S → Option (Int × z_S)) (k2' : Int32 → g_S → Option (Int32 × g_S)) (hk2 : ∀ (y0 : Int) (_ : zin y0) (σ : z_S), zR σ → zrel (k2 y0 σ) (k2' (zI y0) (zo σ))) (x1 : Int) (hx1 : zin x1) (σ : z_S) (hσ : zR σ) : zrel (zMod_pop_b6 N k2 x1 σ) (Mod_pop_b6 N k2' (zI x1) (zo σ)) := by
  unfold zMod_pop_b6 Mod_pop_b6
  refine zr_ite (zI_le (zo_fld rfl 19) (zl_0) (hσ.1 19) (by decide)) ?_ ?_
  · exact zr_of (zMod_pop_b99_r N _ hx1 _ hσ) (congr (congrArg (Mod_pop_b99 N) rfl) rfl)
  · exact zr_of (zMod_pop_b13_r N k2 k2' hk2 _ hx1 _ hσ) (congr (congrArg (Mod_pop_b13 N k2') rfl) rfl)
def zMod_pop_b2 (N : Nat) (k2 : Int → z_S → Option (Int × z_S)) (x1 : Int) (σ : z_S) : Option (Int × z_S) := if (0 : Int) ≤ x1 then zMod_pop_b99 N x1 σ else zMod_pop_b6 N k2 x1 σ
theorem zMod_pop_b2_r (N : Nat) (k2 : Int → z_S → Option (Int × z_S)) (k2' : Int32 → g_S → Option (Int32 × g_S)) (hk2 : ∀ (y0 : Int) (_ : zin y0) (σ : z_S), zR σ → zrel (k2 y0 σ) (k2' (zI y0) (zo σ))) (x1 : Int) (hx1 : zin x1) (σ : z_S) (hσ : zR σ) : zrel (zMod_pop_b2 N k2 x1 σ) (Mod_pop_b2 N k2' (zI x1) (zo σ)) := by
  unfold zMod_pop_b2 Mod_pop_b2
  refine zr_ite (zI_le (zl_0) rfl (by decide) hx1) ?_ ?_
  · exact zr_of (zMod_pop_b99_r N _ hx1 _ hσ) (congr (congrArg (Mod_pop_b99 N) rfl) rfl)
  · exact zr_of (zMod_pop_b6_r N k2 k2' hk2 _ hx1 _ hσ) (congr (congrArg (Mod_pop_b6 N k2') rfl) rfl)
def zMod_pop_l2 (N : Nat) : Nat → Int → z_S → Option (Int × z_S)
  | 0 => fun _ _ => none
  | n + 1 => fun x1 σ => zMod_pop_b2 N (zMod_pop_l2 N n) x1 σ
theorem zMod_pop_l2_r (N : Nat) (n : Nat) : ∀ (x1 : Int) (hx1 : zin x1) (σ : z_S) (_ : zR σ), zrel (zMod_pop_l2 N n x1 σ) (Mod_pop_l2 N n (zI x1) (zo σ)) := by
  induction n with
  | zero => intro x1 hx1 σ hσ r s h; cases h
  | succ n ih => intro x1 hx1 σ hσ; exact zMod_pop_b2_r N _ _ (fun x1 hx1 σ hσ => ih x1 hx1 σ hσ) x1 hx1 σ hσ
def zMod_pop_b0 (N : Nat) (σ : z_S) : Option (Int × z_S) := zMod_pop_l2 N N (-1) σ
theorem zMod_pop_b0_r (N : Nat) (σ : z_S) (hσ : zR σ) : zrel (zMod_pop_b0 N σ) (Mod_pop_b0 N (zo σ)) := by
  unfold zMod_pop_b0 Mod_pop_b0
  exact zr_of (zMod_pop_l2_r N N _ (by decide) _ hσ) (congr (congrArg (Mod_pop_l2 N N) (zl_m1)) rfl)
def zMod_pop (N : Nat) (σ : z_S) : Option (Int × z_S) := zMod_pop_b0 N σ
theorem zMod_pop_r (N : Nat) (σ : z_S) (hσ : zR σ) : zrel (zMod_pop N σ) (Mod_pop N (zo σ)) := by
  unfold zMod_pop Mod_pop
  exact zr_of (zMod_pop_b0_r N  _ hσ) (congrArg (Mod_pop_b0 N) rfl)
def zMod_spends_b13 (N : Nat) (σ : z_S) : Option (Int × z_S) := if zin ((σ.1 16) + 1) then some (1, (zF σ 16 ((σ.1 16) + 1))) else none
theorem zMod_spends_b13_r (N : Nat) (σ : z_S) (hσ : zR σ) : zrel (zMod_spends_b13 N σ) (Mod_spends_b13 N (zo σ)) := by
  unfold zMod_spends_b13 Mod_spends_b13
  refine zr_g (fun g1 => ?_)
  exact zr_some (zl_1) (by decide) (zo_F (k := 16) rfl (zI_add (zo_fld rfl 16) (zl_1))) (zR_F (k := 16) hσ g1)
def zMod_spends_b11 (N : Nat) (σ : z_S) : Option (Int × z_S) := some (0, σ)
theorem zMod_spends_b11_r (N : Nat) (σ : z_S) (hσ : zR σ) : zrel (zMod_spends_b11 N σ) (Mod_spends_b11 N (zo σ)) := by
  unfold zMod_spends_b11 Mod_spends_b11
  exact zr_some (zl_0) (by decide) rfl hσ
def zMod_spends_b0 (N : Nat) (σ : z_S) : Option (Int × z_S) := if (σ.1 16) = (σ.1 17) then zMod_spends_b11 N σ else zMod_spends_b13 N σ
theorem zMod_spends_b0_r (N : Nat) (σ : z_S) (hσ : zR σ) : zrel (zMod_spends_b0 N σ) (Mod_spends_b0 N (zo σ)) := by
  unfold zMod_spends_b0 Mod_spends_b0
  refine zr_ite (zI_eq (zo_fld rfl 16) (zo_fld rfl 17) (hσ.1 16) (hσ.1 17)) ?_ ?_
  · exact zr_of (zMod_spends_b11_r N  _ hσ) (congrArg (Mod_spends_b11 N) rfl)
  · exact zr_of (zMod_spends_b13_r N  _ hσ) (congrArg (Mod_spends_b13 N) rfl)
def zMod_spends (N : Nat) (σ : z_S) : Option (Int × z_S) := zMod_spends_b0 N σ
theorem zMod_spends_r (N : Nat) (σ : z_S) (hσ : zR σ) : zrel (zMod_spends N σ) (Mod_spends N (zo σ)) := by
  unfold zMod_spends Mod_spends
  exact zr_of (zMod_spends_b0_r N  _ hσ) (congrArg (Mod_spends_b0 N) rfl)
def zMod_isMember_b69 (N : Nat) (σ : z_S) : Option (Int × z_S) := some (0, σ)
theorem zMod_isMember_b69_r (N : Nat) (σ : z_S) (hσ : zR σ) : zrel (zMod_isMember_b69 N σ) (Mod_isMember_b69 N (zo σ)) := by
  unfold zMod_isMember_b69 Mod_isMember_b69
  exact zr_some (zl_0) (by decide) rfl hσ
def zMod_isMember_b63 (N : Nat) (k7 : Int → Int → Int → z_S → Option (Int × z_S)) (x1 : Int) (x2 : Int) (x3 : Int) (σ : z_S) : Option (Int × z_S) := if zin (x3 + 1) then k7 x1 x2 (x3 + 1) σ else none
theorem zMod_isMember_b63_r (N : Nat) (k7 : Int → Int → Int → z_S → Option (Int × z_S)) (k7' : Int32 → Int32 → Int32 → g_S → Option (Int32 × g_S)) (hk7 : ∀ (y0 : Int) (_ : zin y0) (y1 : Int) (_ : zin y1) (y2 : Int) (_ : zin y2) (σ : z_S), zR σ → zrel (k7 y0 y1 y2 σ) (k7' (zI y0) (zI y1) (zI y2) (zo σ))) (x1 : Int) (hx1 : zin x1) (x2 : Int) (hx2 : zin x2) (x3 : Int) (hx3 : zin x3) (σ : z_S) (hσ : zR σ) : zrel (zMod_isMember_b63 N k7 x1 x2 x3 σ) (Mod_isMember_b63 N k7' (zI x1) (zI x2) (zI x3) (zo σ)) := by
  unfold zMod_isMember_b63 Mod_isMember_b63
  refine zr_g (fun g1 => ?_)
  exact zr_of (hk7 _ hx1 _ hx2 _ g1 _ hσ) (congr (congr (congr (congrArg (k7') rfl) rfl) (zI_add rfl (zl_1))) rfl)
def zMod_isMember_b61 (N : Nat) (σ : z_S) : Option (Int × z_S) := some (1, σ)
theorem zMod_isMember_b61_r (N : Nat) (σ : z_S) (hσ : zR σ) : zrel (zMod_isMember_b61 N σ) (Mod_isMember_b61 N (zo σ)) := by
  unfold zMod_isMember_b61 Mod_isMember_b61
  exact zr_some (zl_1) (by decide) rfl hσ
def zMod_isMember_b42 (N : Nat) (k7 : Int → Int → Int → z_S → Option (Int × z_S)) (x1 : Int) (x2 : Int) (x3 : Int) (σ : z_S) : Option (Int × z_S) := if zIn x3 200 then (zMod_in N x2 (σ.2 12 (x3).toNat) (σ.2 13 (x3).toNat) σ).bind fun q55 => if q55.1 = 0 then zMod_isMember_b63 N k7 x1 x2 x3 q55.2 else zMod_isMember_b61 N q55.2 else none
theorem zMod_isMember_b42_r (N : Nat) (k7 : Int → Int → Int → z_S → Option (Int × z_S)) (k7' : Int32 → Int32 → Int32 → g_S → Option (Int32 × g_S)) (hk7 : ∀ (y0 : Int) (_ : zin y0) (y1 : Int) (_ : zin y1) (y2 : Int) (_ : zin y2) (σ : z_S), zR σ → zrel (k7 y0 y1 y2 σ) (k7' (zI y0) (zI y1) (zI y2) (zo σ))) (x1 : Int) (hx1 : zin x1) (x2 : Int) (hx2 : zin x2) (x3 : Int) (hx3 : zin x3) (σ : z_S) (hσ : zR σ) : zrel (zMod_isMember_b42 N k7 x1 x2 x3 σ) (Mod_isMember_b42 N k7' (zI x1) (zI x2) (zI x3) (zo σ)) := by
  unfold zMod_isMember_b42 Mod_isMember_b42
  refine zr_gg (zg_in rfl hx3) (fun g1 => ?_)
  refine zr_bind (zr_of (zMod_in_r N _ hx2 _ (hσ.2 12 _) _ (hσ.2 13 _) _ hσ) (congr (congr (congr (congrArg (Mod_in N) rfl) (zo_get (j := 12) rfl rfl hx3)) (zo_get (j := 13) rfl rfl hx3)) rfl)) (fun r55 s55σ hr55 hs55 => ?_)
  dsimp only
  refine zr_ite (zI_eq rfl (zl_0) hr55 (by decide)) ?_ ?_
  · exact zr_of (zMod_isMember_b63_r N k7 k7' hk7 _ hx1 _ hx2 _ hx3 _ hs55) (congr (congr (congr (congrArg (Mod_isMember_b63 N k7') rfl) rfl) rfl) rfl)
  · exact zr_of (zMod_isMember_b61_r N  _ hs55) (congrArg (Mod_isMember_b61 N) rfl)
def zMod_isMember_b39 (N : Nat) (σ : z_S) : Option (Int × z_S) := zMod_isMember_b61 N σ
theorem zMod_isMember_b39_r (N : Nat) (σ : z_S) (hσ : zR σ) : zrel (zMod_isMember_b39 N σ) (Mod_isMember_b39 N (zo σ)) := by
  unfold zMod_isMember_b39 Mod_isMember_b39
  exact zr_of (zMod_isMember_b61_r N  _ hσ) (congrArg (Mod_isMember_b61 N) rfl)
def zMod_isMember_b26 (N : Nat) (k7 : Int → Int → Int → z_S → Option (Int × z_S)) (x1 : Int) (x2 : Int) (x3 : Int) (σ : z_S) : Option (Int × z_S) := if zIn x3 200 then (zMod_inSet N (σ.2 12 (x3).toNat) x2 σ).bind fun q33 => if q33.1 = 0 then zMod_isMember_b63 N k7 x1 x2 x3 q33.2 else zMod_isMember_b39 N q33.2 else none
theorem zMod_isMember_b26_r (N : Nat) (k7 : Int → Int → Int → z_S → Option (Int × z_S)) (k7' : Int32 → Int32 → Int32 → g_S → Option (Int32 × g_S)) (hk7 : ∀ (y0 : Int) (_ : zin y0) (y1 : Int) (_ : zin y1) (y2 : Int) (_ : zin y2) (σ : z_S), zR σ → zrel (k7 y0 y1 y2 σ) (k7' (zI y0) (zI y1) (zI y2) (zo σ))) (x1 : Int) (hx1 : zin x1) (x2 : Int) (hx2 : zin x2) (x3 : Int) (hx3 : zin x3) (σ : z_S) (hσ : zR σ) : zrel (zMod_isMember_b26 N k7 x1 x2 x3 σ) (Mod_isMember_b26 N k7' (zI x1) (zI x2) (zI x3) (zo σ)) := by
  unfold zMod_isMember_b26 Mod_isMember_b26
  refine zr_gg (zg_in rfl hx3) (fun g1 => ?_)
  refine zr_bind (zr_of (zMod_inSet_r N _ (hσ.2 12 _) _ hx2 _ hσ) (congr (congr (congrArg (Mod_inSet N) (zo_get (j := 12) rfl rfl hx3)) rfl) rfl)) (fun r33 s33σ hr33 hs33 => ?_)
  dsimp only
  refine zr_ite (zI_eq rfl (zl_0) hr33 (by decide)) ?_ ?_
  · exact zr_of (zMod_isMember_b63_r N k7 k7' hk7 _ hx1 _ hx2 _ hx3 _ hs33) (congr (congr (congr (congrArg (Mod_isMember_b63 N k7') rfl) rfl) rfl) rfl)
  · exact zr_of (zMod_isMember_b39_r N  _ hs33) (congrArg (Mod_isMember_b39 N) rfl)
def zMod_isMember_b17 (N : Nat) (k7 : Int → Int → Int → z_S → Option (Int × z_S)) (x1 : Int) (x2 : Int) (x3 : Int) (σ : z_S) : Option (Int × z_S) := if zIn x3 200 then if (0 : Int) ≤ (σ.2 13 (x3).toNat) then zMod_isMember_b42 N k7 x1 x2 x3 σ else zMod_isMember_b26 N k7 x1 x2 x3 σ else none
theorem zMod_isMember_b17_r (N : Nat) (k7 : Int → Int → Int → z_S → Option (Int × z_S)) (k7' : Int32 → Int32 → Int32 → g_S → Option (Int32 × g_S)) (hk7 : ∀ (y0 : Int) (_ : zin y0) (y1 : Int) (_ : zin y1) (y2 : Int) (_ : zin y2) (σ : z_S), zR σ → zrel (k7 y0 y1 y2 σ) (k7' (zI y0) (zI y1) (zI y2) (zo σ))) (x1 : Int) (hx1 : zin x1) (x2 : Int) (hx2 : zin x2) (x3 : Int) (hx3 : zin x3) (σ : z_S) (hσ : zR σ) : zrel (zMod_isMember_b17 N k7 x1 x2 x3 σ) (Mod_isMember_b17 N k7' (zI x1) (zI x2) (zI x3) (zo σ)) := by
  unfold zMod_isMember_b17 Mod_isMember_b17
  refine zr_gg (zg_in rfl hx3) (fun g1 => ?_)
  refine zr_ite (zI_le (zl_0) (zo_get (j := 13) rfl rfl hx3) (by decide) (hσ.2 13 _)) ?_ ?_
  · exact zr_of (zMod_isMember_b42_r N k7 k7' hk7 _ hx1 _ hx2 _ hx3 _ hσ) (congr (congr (congr (congrArg (Mod_isMember_b42 N k7') rfl) rfl) rfl) rfl)
  · exact zr_of (zMod_isMember_b26_r N k7 k7' hk7 _ hx1 _ hx2 _ hx3 _ hσ) (congr (congr (congr (congrArg (Mod_isMember_b26 N k7') rfl) rfl) rfl) rfl)
def zMod_isMember_b7 (N : Nat) (k7 : Int → Int → Int → z_S → Option (Int × z_S)) (x1 : Int) (x2 : Int) (x3 : Int) (σ : z_S) : Option (Int × z_S) := if zIn x1 1300 then if (σ.2 5 (x1).toNat) ≤ x3 then zMod_isMember_b69 N σ else zMod_isMember_b17 N k7 x1 x2 x3 σ else none
theorem zMod_isMember_b7_r (N : Nat) (k7 : Int → Int → Int → z_S → Option (Int × z_S)) (k7' : Int32 → Int32 → Int32 → g_S → Option (Int32 × g_S)) (hk7 : ∀ (y0 : Int) (_ : zin y0) (y1 : Int) (_ : zin y1) (y2 : Int) (_ : zin y2) (σ : z_S), zR σ → zrel (k7 y0 y1 y2 σ) (k7' (zI y0) (zI y1) (zI y2) (zo σ))) (x1 : Int) (hx1 : zin x1) (x2 : Int) (hx2 : zin x2) (x3 : Int) (hx3 : zin x3) (σ : z_S) (hσ : zR σ) : zrel (zMod_isMember_b7 N k7 x1 x2 x3 σ) (Mod_isMember_b7 N k7' (zI x1) (zI x2) (zI x3) (zo σ)) := by
  unfold zMod_isMember_b7 Mod_isMember_b7
  refine zr_gg (zg_in rfl hx1) (fun g1 => ?_)
  refine zr_ite (zI_le (zo_get (j := 5) rfl rfl hx1) rfl (hσ.2 5 _) hx3) ?_ ?_
  · exact zr_of (zMod_isMember_b69_r N  _ hσ) (congrArg (Mod_isMember_b69 N) rfl)
  · exact zr_of (zMod_isMember_b17_r N k7 k7' hk7 _ hx1 _ hx2 _ hx3 _ hσ) (congr (congr (congr (congrArg (Mod_isMember_b17 N k7') rfl) rfl) rfl) rfl)
def zMod_isMember_l7 (N : Nat) : Nat → Int → Int → Int → z_S → Option (Int × z_S)
  | 0 => fun _ _ _ _ => none
  | n + 1 => fun x1 x2 x3 σ => zMod_isMember_b7 N (zMod_isMember_l7 N n) x1 x2 x3 σ
theorem zMod_isMember_l7_r (N : Nat) (n : Nat) : ∀ (x1 : Int) (hx1 : zin x1) (x2 : Int) (hx2 : zin x2) (x3 : Int) (hx3 : zin x3) (σ : z_S) (_ : zR σ), zrel (zMod_isMember_l7 N n x1 x2 x3 σ) (Mod_isMember_l7 N n (zI x1) (zI x2) (zI x3) (zo σ)) := by
  induction n with
  | zero => intro x1 hx1 x2 hx2 x3 hx3 σ hσ r s h; cases h
  | succ n ih => intro x1 hx1 x2 hx2 x3 hx3 σ hσ; exact zMod_isMember_b7_r N _ _ (fun x1 hx1 x2 hx2 x3 hx3 σ hσ => ih x1 hx1 x2 hx2 x3 hx3 σ hσ) x1 hx1 x2 hx2 x3 hx3 σ hσ
def zMod_isMember_b0 (N : Nat) (x1 : Int) (x2 : Int) (σ : z_S) : Option (Int × z_S) := if zIn x1 1300 then zMod_isMember_l7 N N x1 x2 (σ.2 4 (x1).toNat) σ else none
theorem zMod_isMember_b0_r (N : Nat) (x1 : Int) (hx1 : zin x1) (x2 : Int) (hx2 : zin x2) (σ : z_S) (hσ : zR σ) : zrel (zMod_isMember_b0 N x1 x2 σ) (Mod_isMember_b0 N (zI x1) (zI x2) (zo σ)) := by
  unfold zMod_isMember_b0 Mod_isMember_b0
  refine zr_gg (zg_in rfl hx1) (fun g1 => ?_)
  exact zr_of (zMod_isMember_l7_r N N _ hx1 _ hx2 _ (hσ.2 4 _) _ hσ) (congr (congr (congr (congrArg (Mod_isMember_l7 N N) rfl) rfl) (zo_get (j := 4) rfl rfl hx1)) rfl)
def zMod_isMember (N : Nat) (x1 : Int) (x2 : Int) (σ : z_S) : Option (Int × z_S) := zMod_isMember_b0 N x1 x2 σ
theorem zMod_isMember_r (N : Nat) (x1 : Int) (hx1 : zin x1) (x2 : Int) (hx2 : zin x2) (σ : z_S) (hσ : zR σ) : zrel (zMod_isMember N x1 x2 σ) (Mod_isMember N (zI x1) (zI x2) (zo σ)) := by
  unfold zMod_isMember Mod_isMember
  exact zr_of (zMod_isMember_b0_r N _ hx1 _ hx2 _ hσ) (congr (congr (congrArg (Mod_isMember_b0 N) rfl) rfl) rfl)
def zMod_hasMember_b125 (N : Nat) (s0 : Int) (σ : z_S) : Option (Int × z_S) := if zB s0 then some (s0, σ) else none
theorem zMod_hasMember_b125_r (N : Nat) (s0 : Int) (hs0 : zin s0) (σ : z_S) (hσ : zR σ) : zrel (zMod_hasMember_b125 N s0 σ) (Mod_hasMember_b125 N (zI s0) (zo σ)) := by
  unfold zMod_hasMember_b125 Mod_hasMember_b125
  refine zr_gg (zg_B rfl) (fun g1 => ?_)
  exact zr_some rfl hs0 rfl hσ
def zMod_hasMember_b120 (N : Nat) (σ : z_S) : Option (Int × z_S) := zMod_hasMember_b125 N 1 σ
theorem zMod_hasMember_b120_r (N : Nat) (σ : z_S) (hσ : zR σ) : zrel (zMod_hasMember_b120 N σ) (Mod_hasMember_b120 N (zo σ)) := by
  unfold zMod_hasMember_b120 Mod_hasMember_b120
  exact zr_of (zMod_hasMember_b125_r N _ (by decide) _ hσ) (congr (congrArg (Mod_hasMember_b125 N) (zl_1)) rfl)
def zMod_hasMember_b124 (N : Nat) (σ : z_S) : Option (Int × z_S) := zMod_hasMember_b125 N 0 σ
theorem zMod_hasMember_b124_r (N : Nat) (σ : z_S) (hσ : zR σ) : zrel (zMod_hasMember_b124 N σ) (Mod_hasMember_b124 N (zo σ)) := by
  unfold zMod_hasMember_b124 Mod_hasMember_b124
  exact zr_of (zMod_hasMember_b125_r N _ (by decide) _ hσ) (congr (congrArg (Mod_hasMember_b125 N) (zl_0)) rfl)
def zMod_hasMember_b109 (N : Nat) (x1 : Int) (σ : z_S) : Option (Int × z_S) := (zMod_isMember N x1 181 σ).bind fun q114 => if q114.1 = 0 then zMod_hasMember_b124 N q114.2 else zMod_hasMember_b120 N q114.2
theorem zMod_hasMember_b109_r (N : Nat) (x1 : Int) (hx1 : zin x1) (σ : z_S) (hσ : zR σ) : zrel (zMod_hasMember_b109 N x1 σ) (Mod_hasMember_b109 N (zI x1) (zo σ)) := by
  unfold zMod_hasMember_b109 Mod_hasMember_b109
  refine zr_bind (zr_of (zMod_isMember_r N _ hx1 _ (by decide) _ hσ) (congr (congr (congrArg (Mod_isMember N) rfl) (zl_181)) rfl)) (fun r114 s114σ hr114 hs114 => ?_)
  dsimp only
  refine zr_ite (zI_eq rfl (zl_0) hr114 (by decide)) ?_ ?_
  · exact zr_of (zMod_hasMember_b124_r N  _ hs114) (congrArg (Mod_hasMember_b124 N) rfl)
  · exact zr_of (zMod_hasMember_b120_r N  _ hs114) (congrArg (Mod_hasMember_b120 N) rfl)
def zMod_hasMember_b102 (N : Nat) (x1 : Int) (x3 : Int) (σ : z_S) : Option (Int × z_S) := if x3 = 924 then zMod_hasMember_b109 N x1 σ else zMod_hasMember_b124 N σ
theorem zMod_hasMember_b102_r (N : Nat) (x1 : Int) (hx1 : zin x1) (x3 : Int) (hx3 : zin x3) (σ : z_S) (hσ : zR σ) : zrel (zMod_hasMember_b102 N x1 x3 σ) (Mod_hasMember_b102 N (zI x1) (zI x3) (zo σ)) := by
  unfold zMod_hasMember_b102 Mod_hasMember_b102
  refine zr_ite (zI_eq rfl (zl_924) hx3 (by decide)) ?_ ?_
  · exact zr_of (zMod_hasMember_b109_r N _ hx1 _ hσ) (congr (congrArg (Mod_hasMember_b109 N) rfl) rfl)
  · exact zr_of (zMod_hasMember_b124_r N  _ hσ) (congrArg (Mod_hasMember_b124 N) rfl)
def zMod_hasMember_b91 (N : Nat) (x1 : Int) (x3 : Int) (σ : z_S) : Option (Int × z_S) := (zMod_isMember N x1 255 σ).bind fun q96 => if q96.1 = 0 then zMod_hasMember_b102 N x1 x3 q96.2 else zMod_hasMember_b120 N q96.2
theorem zMod_hasMember_b91_r (N : Nat) (x1 : Int) (hx1 : zin x1) (x3 : Int) (hx3 : zin x3) (σ : z_S) (hσ : zR σ) : zrel (zMod_hasMember_b91 N x1 x3 σ) (Mod_hasMember_b91 N (zI x1) (zI x3) (zo σ)) := by
  unfold zMod_hasMember_b91 Mod_hasMember_b91
  refine zr_bind (zr_of (zMod_isMember_r N _ hx1 _ (by decide) _ hσ) (congr (congr (congrArg (Mod_isMember N) rfl) (zl_255)) rfl)) (fun r96 s96σ hr96 hs96 => ?_)
  dsimp only
  refine zr_ite (zI_eq rfl (zl_0) hr96 (by decide)) ?_ ?_
  · exact zr_of (zMod_hasMember_b102_r N _ hx1 _ hx3 _ hs96) (congr (congr (congrArg (Mod_hasMember_b102 N) rfl) rfl) rfl)
  · exact zr_of (zMod_hasMember_b120_r N  _ hs96) (congrArg (Mod_hasMember_b120 N) rfl)
def zMod_hasMember_b84 (N : Nat) (x1 : Int) (x3 : Int) (σ : z_S) : Option (Int × z_S) := if x3 = 376 then zMod_hasMember_b91 N x1 x3 σ else zMod_hasMember_b102 N x1 x3 σ
theorem zMod_hasMember_b84_r (N : Nat) (x1 : Int) (hx1 : zin x1) (x3 : Int) (hx3 : zin x3) (σ : z_S) (hσ : zR σ) : zrel (zMod_hasMember_b84 N x1 x3 σ) (Mod_hasMember_b84 N (zI x1) (zI x3) (zo σ)) := by
  unfold zMod_hasMember_b84 Mod_hasMember_b84
  refine zr_ite (zI_eq rfl (zl_376) hx3 (by decide)) ?_ ?_
  · exact zr_of (zMod_hasMember_b91_r N _ hx1 _ hx3 _ hσ) (congr (congr (congrArg (Mod_hasMember_b91 N) rfl) rfl) rfl)
  · exact zr_of (zMod_hasMember_b102_r N _ hx1 _ hx3 _ hσ) (congr (congr (congrArg (Mod_hasMember_b102 N) rfl) rfl) rfl)
def zMod_hasMember_b79 (N : Nat) (x1 : Int) (x3 : Int) (x4 : Int) (σ : z_S) : Option (Int × z_S) := if x4 = 0 then zMod_hasMember_b84 N x1 x3 σ else zMod_hasMember_b120 N σ
theorem zMod_hasMember_b79_r (N : Nat) (x1 : Int) (hx1 : zin x1) (x3 : Int) (hx3 : zin x3) (x4 : Int) (hx4 : zin x4) (σ : z_S) (hσ : zR σ) : zrel (zMod_hasMember_b79 N x1 x3 x4 σ) (Mod_hasMember_b79 N (zI x1) (zI x3) (zI x4) (zo σ)) := by
  unfold zMod_hasMember_b79 Mod_hasMember_b79
  refine zr_ite (zI_eq rfl (zl_0) hx4 (by decide)) ?_ ?_
  · exact zr_of (zMod_hasMember_b84_r N _ hx1 _ hx3 _ hσ) (congr (congr (congrArg (Mod_hasMember_b84 N) rfl) rfl) rfl)
  · exact zr_of (zMod_hasMember_b120_r N  _ hσ) (congrArg (Mod_hasMember_b120 N) rfl)
def zMod_hasMember_b77 (N : Nat) (x1 : Int) (x3 : Int) (s0 : Int) (σ : z_S) : Option (Int × z_S) := zMod_hasMember_b79 N x1 x3 s0 σ
theorem zMod_hasMember_b77_r (N : Nat) (x1 : Int) (hx1 : zin x1) (x3 : Int) (hx3 : zin x3) (s0 : Int) (hs0 : zin s0) (σ : z_S) (hσ : zR σ) : zrel (zMod_hasMember_b77 N x1 x3 s0 σ) (Mod_hasMember_b77 N (zI x1) (zI x3) (zI s0) (zo σ)) := by
  unfold zMod_hasMember_b77 Mod_hasMember_b77
  exact zr_of (zMod_hasMember_b79_r N _ hx1 _ hx3 _ hs0 _ hσ) (congr (congr (congr (congrArg (Mod_hasMember_b79 N) rfl) rfl) rfl) rfl)
def zMod_hasMember_b72 (N : Nat) (x1 : Int) (x3 : Int) (σ : z_S) : Option (Int × z_S) := zMod_hasMember_b77 N x1 x3 1 σ
theorem zMod_hasMember_b72_r (N : Nat) (x1 : Int) (hx1 : zin x1) (x3 : Int) (hx3 : zin x3) (σ : z_S) (hσ : zR σ) : zrel (zMod_hasMember_b72 N x1 x3 σ) (Mod_hasMember_b72 N (zI x1) (zI x3) (zo σ)) := by
  unfold zMod_hasMember_b72 Mod_hasMember_b72
  exact zr_of (zMod_hasMember_b77_r N _ hx1 _ hx3 _ (by decide) _ hσ) (congr (congr (congr (congrArg (Mod_hasMember_b77 N) rfl) rfl) (zl_1)) rfl)
def zMod_hasMember_b76 (N : Nat) (x1 : Int) (x3 : Int) (σ : z_S) : Option (Int × z_S) := zMod_hasMember_b77 N x1 x3 0 σ
theorem zMod_hasMember_b76_r (N : Nat) (x1 : Int) (hx1 : zin x1) (x3 : Int) (hx3 : zin x3) (σ : z_S) (hσ : zR σ) : zrel (zMod_hasMember_b76 N x1 x3 σ) (Mod_hasMember_b76 N (zI x1) (zI x3) (zo σ)) := by
  unfold zMod_hasMember_b76 Mod_hasMember_b76
  exact zr_of (zMod_hasMember_b77_r N _ hx1 _ hx3 _ (by decide) _ hσ) (congr (congr (congr (congrArg (Mod_hasMember_b77 N) rfl) rfl) (zl_0)) rfl)
def zMod_hasMember_b60 (N : Nat) (x1 : Int) (x3 : Int) (σ : z_S) : Option (Int × z_S) := if zin (x3 + 32) then (zMod_isMember N x1 (x3 + 32) σ).bind fun q66 => if q66.1 = 0 then zMod_hasMember_b76 N x1 x3 q66.2 else zMod_hasMember_b72 N x1 x3 q66.2 else none
theorem zMod_hasMember_b60_r (N : Nat) (x1 : Int) (hx1 : zin x1) (x3 : Int) (hx3 : zin x3) (σ : z_S) (hσ : zR σ) : zrel (zMod_hasMember_b60 N x1 x3 σ) (Mod_hasMember_b60 N (zI x1) (zI x3) (zo σ)) := by
  unfold zMod_hasMember_b60 Mod_hasMember_b60
  refine zr_g (fun g1 => ?_)
  refine zr_bind (zr_of (zMod_isMember_r N _ hx1 _ g1 _ hσ) (congr (congr (congrArg (Mod_isMember N) rfl) (zI_add rfl (zl_32))) rfl)) (fun r66 s66σ hr66 hs66 => ?_)
  dsimp only
  refine zr_ite (zI_eq rfl (zl_0) hr66 (by decide)) ?_ ?_
  · exact zr_of (zMod_hasMember_b76_r N _ hx1 _ hx3 _ hs66) (congr (congr (congrArg (Mod_hasMember_b76 N) rfl) rfl) rfl)
  · exact zr_of (zMod_hasMember_b72_r N _ hx1 _ hx3 _ hs66) (congr (congr (congrArg (Mod_hasMember_b72 N) rfl) rfl) rfl)
def zMod_hasMember_b55 (N : Nat) (x1 : Int) (x3 : Int) (x4 : Int) (σ : z_S) : Option (Int × z_S) := if x4 = 0 then zMod_hasMember_b60 N x1 x3 σ else zMod_hasMember_b72 N x1 x3 σ
theorem zMod_hasMember_b55_r (N : Nat) (x1 : Int) (hx1 : zin x1) (x3 : Int) (hx3 : zin x3) (x4 : Int) (hx4 : zin x4) (σ : z_S) (hσ : zR σ) : zrel (zMod_hasMember_b55 N x1 x3 x4 σ) (Mod_hasMember_b55 N (zI x1) (zI x3) (zI x4) (zo σ)) := by
  unfold zMod_hasMember_b55 Mod_hasMember_b55
  refine zr_ite (zI_eq rfl (zl_0) hx4 (by decide)) ?_ ?_
  · exact zr_of (zMod_hasMember_b60_r N _ hx1 _ hx3 _ hσ) (congr (congr (congrArg (Mod_hasMember_b60 N) rfl) rfl) rfl)
  · exact zr_of (zMod_hasMember_b72_r N _ hx1 _ hx3 _ hσ) (congr (congr (congrArg (Mod_hasMember_b72 N) rfl) rfl) rfl)
def zMod_hasMember_b42 (N : Nat) (x1 : Int) (x3 : Int) (s0 : Int) (σ : z_S) : Option (Int × z_S) := if zin (x3 + 32) then (zMod_upper N (x3 + 32) σ).bind fun q48 => if q48.1 = x3 then zMod_hasMember_b55 N x1 x3 s0 q48.2 else zMod_hasMember_b79 N x1 x3 s0 q48.2 else none
theorem zMod_hasMember_b42_r (N : Nat) (x1 : Int) (hx1 : zin x1) (x3 : Int) (hx3 : zin x3) (s0 : Int) (hs0 : zin s0) (σ : z_S) (hσ : zR σ) : zrel (zMod_hasMember_b42 N x1 x3 s0 σ) (Mod_hasMember_b42 N (zI x1) (zI x3) (zI s0) (zo σ)) := by
  unfold zMod_hasMember_b42 Mod_hasMember_b42
  refine zr_g (fun g1 => ?_)
  refine zr_bind (zr_of (zMod_upper_r N _ g1 _ hσ) (congr (congrArg (Mod_upper N) (zI_add rfl (zl_32))) rfl)) (fun r48 s48σ hr48 hs48 => ?_)
  dsimp only
  refine zr_ite (zI_eq rfl rfl hr48 hx3) ?_ ?_
  · exact zr_of (zMod_hasMember_b55_r N _ hx1 _ hx3 _ hs0 _ hs48) (congr (congr (congr (congrArg (Mod_hasMember_b55 N) rfl) rfl) rfl) rfl)
  · exact zr_of (zMod_hasMember_b79_r N _ hx1 _ hx3 _ hs0 _ hs48) (congr (congr (congr (congrArg (Mod_hasMember_b79 N) rfl) rfl) rfl) rfl)
def zMod_hasMember_b37 (N : Nat) (x1 : Int) (x3 : Int) (σ : z_S) : Option (Int × z_S) := zMod_hasMember_b42 N x1 x3 1 σ
theorem zMod_hasMember_b37_r (N : Nat) (x1 : Int) (hx1 : zin x1) (x3 : Int) (hx3 : zin x3) (σ : z_S) (hσ : zR σ) : zrel (zMod_hasMember_b37 N x1 x3 σ) (Mod_hasMember_b37 N (zI x1) (zI x3) (zo σ)) := by
  unfold zMod_hasMember_b37 Mod_hasMember_b37
  exact zr_of (zMod_hasMember_b42_r N _ hx1 _ hx3 _ (by decide) _ hσ) (congr (congr (congr (congrArg (Mod_hasMember_b42 N) rfl) rfl) (zl_1)) rfl)
def zMod_hasMember_b41 (N : Nat) (x1 : Int) (x3 : Int) (σ : z_S) : Option (Int × z_S) := zMod_hasMember_b42 N x1 x3 0 σ
theorem zMod_hasMember_b41_r (N : Nat) (x1 : Int) (hx1 : zin x1) (x3 : Int) (hx3 : zin x3) (σ : z_S) (hσ : zR σ) : zrel (zMod_hasMember_b41 N x1 x3 σ) (Mod_hasMember_b41 N (zI x1) (zI x3) (zo σ)) := by
  unfold zMod_hasMember_b41 Mod_hasMember_b41
  exact zr_of (zMod_hasMember_b42_r N _ hx1 _ hx3 _ (by decide) _ hσ) (congr (congr (congr (congrArg (Mod_hasMember_b42 N) rfl) rfl) (zl_0)) rfl)
def zMod_hasMember_b28 (N : Nat) (x1 : Int) (x3 : Int) (σ : z_S) : Option (Int × z_S) := (zMod_isMember N x1 x3 σ).bind fun q31 => if q31.1 = 0 then zMod_hasMember_b41 N x1 x3 q31.2 else zMod_hasMember_b37 N x1 x3 q31.2
theorem zMod_hasMember_b28_r (N : Nat) (x1 : Int) (hx1 : zin x1) (x3 : Int) (hx3 : zin x3) (σ : z_S) (hσ : zR σ) : zrel (zMod_hasMember_b28 N x1 x3 σ) (Mod_hasMember_b28 N (zI x1) (zI x3) (zo σ)) := by
  unfold zMod_hasMember_b28 Mod_hasMember_b28
  refine zr_bind (zr_of (zMod_isMember_r N _ hx1 _ hx3 _ hσ) (congr (congr (congrArg (Mod_isMember N) rfl) rfl) rfl)) (fun r31 s31σ hr31 hs31 => ?_)
  dsimp only
  refine zr_ite (zI_eq rfl (zl_0) hr31 (by decide)) ?_ ?_
  · exact zr_of (zMod_hasMember_b41_r N _ hx1 _ hx3 _ hs31) (congr (congr (congrArg (Mod_hasMember_b41 N) rfl) rfl) rfl)
  · exact zr_of (zMod_hasMember_b37_r N _ hx1 _ hx3 _ hs31) (congr (congr (congrArg (Mod_hasMember_b37 N) rfl) rfl) rfl)
def zMod_hasMember_b14 (N : Nat) (x1 : Int) (x2 : Int) (σ : z_S) : Option (Int × z_S) := (zMod_upper N x2 σ).bind fun q15 => (zMod_isMember N x1 x2 q15.2).bind fun q22 => if q22.1 = 0 then zMod_hasMember_b28 N x1 q15.1 q22.2 else zMod_hasMember_b37 N x1 q15.1 q22.2
theorem zMod_hasMember_b14_r (N : Nat) (x1 : Int) (hx1 : zin x1) (x2 : Int) (hx2 : zin x2) (σ : z_S) (hσ : zR σ) : zrel (zMod_hasMember_b14 N x1 x2 σ) (Mod_hasMember_b14 N (zI x1) (zI x2) (zo σ)) := by
  unfold zMod_hasMember_b14 Mod_hasMember_b14
  refine zr_bind (zr_of (zMod_upper_r N _ hx2 _ hσ) (congr (congrArg (Mod_upper N) rfl) rfl)) (fun r15 s15σ hr15 hs15 => ?_)
  dsimp only
  refine zr_bind (zr_of (zMod_isMember_r N _ hx1 _ hx2 _ hs15) (congr (congr (congrArg (Mod_isMember N) rfl) rfl) rfl)) (fun r22 s22σ hr22 hs22 => ?_)
  dsimp only
  refine zr_ite (zI_eq rfl (zl_0) hr22 (by decide)) ?_ ?_
  · exact zr_of (zMod_hasMember_b28_r N _ hx1 _ hr15 _ hs22) (congr (congr (congrArg (Mod_hasMember_b28 N) rfl) rfl) rfl)
  · exact zr_of (zMod_hasMember_b37_r N _ hx1 _ hr15 _ hs22) (congr (congr (congrArg (Mod_hasMember_b37 N) rfl) rfl) rfl)
def zMod_hasMember_b7 (N : Nat) (x1 : Int) (x2 : Int) (σ : z_S) : Option (Int × z_S) := (zMod_isMember N x1 x2 σ).bind fun q10 => if zB q10.1 then some (q10.1, q10.2) else none
theorem zMod_hasMember_b7_r (N : Nat) (x1 : Int) (hx1 : zin x1) (x2 : Int) (hx2 : zin x2) (σ : z_S) (hσ : zR σ) : zrel (zMod_hasMember_b7 N x1 x2 σ) (Mod_hasMember_b7 N (zI x1) (zI x2) (zo σ)) := by
  unfold zMod_hasMember_b7 Mod_hasMember_b7
  refine zr_bind (zr_of (zMod_isMember_r N _ hx1 _ hx2 _ hσ) (congr (congr (congrArg (Mod_isMember N) rfl) rfl) rfl)) (fun r10 s10σ hr10 hs10 => ?_)
  dsimp only
  refine zr_gg (zg_B rfl) (fun g1 => ?_)
  exact zr_some rfl hr10 rfl hs10
def zMod_hasMember_b0 (N : Nat) (x1 : Int) (x2 : Int) (σ : z_S) : Option (Int × z_S) := if (σ.1 3) = 0 then zMod_hasMember_b7 N x1 x2 σ else zMod_hasMember_b14 N x1 x2 σ
theorem zMod_hasMember_b0_r (N : Nat) (x1 : Int) (hx1 : zin x1) (x2 : Int) (hx2 : zin x2) (σ : z_S) (hσ : zR σ) : zrel (zMod_hasMember_b0 N x1 x2 σ) (Mod_hasMember_b0 N (zI x1) (zI x2) (zo σ)) := by
  unfold zMod_hasMember_b0 Mod_hasMember_b0
  refine zr_ite (zI_eq (zo_fld rfl 3) (zl_0) (hσ.1 3) (by decide)) ?_ ?_
  · exact zr_of (zMod_hasMember_b7_r N _ hx1 _ hx2 _ hσ) (congr (congr (congrArg (Mod_hasMember_b7 N) rfl) rfl) rfl)
  · exact zr_of (zMod_hasMember_b14_r N _ hx1 _ hx2 _ hσ) (congr (congr (congrArg (Mod_hasMember_b14 N) rfl) rfl) rfl)
def zMod_hasMember (N : Nat) (x1 : Int) (x2 : Int) (σ : z_S) : Option (Int × z_S) := zMod_hasMember_b0 N x1 x2 σ
theorem zMod_hasMember_r (N : Nat) (x1 : Int) (hx1 : zin x1) (x2 : Int) (hx2 : zin x2) (σ : z_S) (hσ : zR σ) : zrel (zMod_hasMember N x1 x2 σ) (Mod_hasMember N (zI x1) (zI x2) (zo σ)) := by
  unfold zMod_hasMember Mod_hasMember
  exact zr_of (zMod_hasMember_b0_r N _ hx1 _ hx2 _ hσ) (congr (congr (congrArg (Mod_hasMember_b0 N) rfl) rfl) rfl)
def zMod_isSame_b28 (N : Nat) (s0 : Int) (σ : z_S) : Option (Int × z_S) := if zB s0 then some (s0, σ) else none
theorem zMod_isSame_b28_r (N : Nat) (s0 : Int) (hs0 : zin s0) (σ : z_S) (hσ : zR σ) : zrel (zMod_isSame_b28 N s0 σ) (Mod_isSame_b28 N (zI s0) (zo σ)) := by
  unfold zMod_isSame_b28 Mod_isSame_b28
  refine zr_gg (zg_B rfl) (fun g1 => ?_)
  exact zr_some rfl hs0 rfl hσ
def zMod_isSame_b23 (N : Nat) (σ : z_S) : Option (Int × z_S) := zMod_isSame_b28 N 1 σ
theorem zMod_isSame_b23_r (N : Nat) (σ : z_S) (hσ : zR σ) : zrel (zMod_isSame_b23 N σ) (Mod_isSame_b23 N (zo σ)) := by
  unfold zMod_isSame_b23 Mod_isSame_b23
  exact zr_of (zMod_isSame_b28_r N _ (by decide) _ hσ) (congr (congrArg (Mod_isSame_b28 N) (zl_1)) rfl)
def zMod_isSame_b27 (N : Nat) (σ : z_S) : Option (Int × z_S) := zMod_isSame_b28 N 0 σ
theorem zMod_isSame_b27_r (N : Nat) (σ : z_S) (hσ : zR σ) : zrel (zMod_isSame_b27 N σ) (Mod_isSame_b27 N (zo σ)) := by
  unfold zMod_isSame_b27 Mod_isSame_b27
  exact zr_of (zMod_isSame_b28_r N _ (by decide) _ hσ) (congr (congrArg (Mod_isSame_b28 N) (zl_0)) rfl)
def zMod_isSame_b12 (N : Nat) (x1 : Int) (x2 : Int) (σ : z_S) : Option (Int × z_S) := (zMod_upper N x1 σ).bind fun q13 => (zMod_upper N x2 q13.2).bind fun q17 => if q13.1 = q17.1 then zMod_isSame_b23 N q17.2 else zMod_isSame_b27 N q17.2
theorem zMod_isSame_b12_r (N : Nat) (x1 : Int) (hx1 : zin x1) (x2 : Int) (hx2 : zin x2) (σ : z_S) (hσ : zR σ) : zrel (zMod_isSame_b12 N x1 x2 σ) (Mod_isSame_b12 N (zI x1) (zI x2) (zo σ)) := by
  unfold zMod_isSame_b12 Mod_isSame_b12
  refine zr_bind (zr_of (zMod_upper_r N _ hx1 _ hσ) (congr (congrArg (Mod_upper N) rfl) rfl)) (fun r13 s13σ hr13 hs13 => ?_)
  dsimp only
  refine zr_bind (zr_of (zMod_upper_r N _ hx2 _ hs13) (congr (congrArg (Mod_upper N) rfl) rfl)) (fun r17 s17σ hr17 hs17 => ?_)
  dsimp only
  refine zr_ite (zI_eq rfl rfl hr13 hr17) ?_ ?_
  · exact zr_of (zMod_isSame_b23_r N  _ hs17) (congrArg (Mod_isSame_b23 N) rfl)
  · exact zr_of (zMod_isSame_b27_r N  _ hs17) (congrArg (Mod_isSame_b27 N) rfl)
def zMod_isSame_b5 (N : Nat) (x1 : Int) (x2 : Int) (σ : z_S) : Option (Int × z_S) := if (σ.1 3) = 0 then zMod_isSame_b27 N σ else zMod_isSame_b12 N x1 x2 σ
theorem zMod_isSame_b5_r (N : Nat) (x1 : Int) (hx1 : zin x1) (x2 : Int) (hx2 : zin x2) (σ : z_S) (hσ : zR σ) : zrel (zMod_isSame_b5 N x1 x2 σ) (Mod_isSame_b5 N (zI x1) (zI x2) (zo σ)) := by
  unfold zMod_isSame_b5 Mod_isSame_b5
  refine zr_ite (zI_eq (zo_fld rfl 3) (zl_0) (hσ.1 3) (by decide)) ?_ ?_
  · exact zr_of (zMod_isSame_b27_r N  _ hσ) (congrArg (Mod_isSame_b27 N) rfl)
  · exact zr_of (zMod_isSame_b12_r N _ hx1 _ hx2 _ hσ) (congr (congr (congrArg (Mod_isSame_b12 N) rfl) rfl) rfl)
def zMod_isSame_b0 (N : Nat) (x1 : Int) (x2 : Int) (σ : z_S) : Option (Int × z_S) := if x1 = x2 then zMod_isSame_b23 N σ else zMod_isSame_b5 N x1 x2 σ
theorem zMod_isSame_b0_r (N : Nat) (x1 : Int) (hx1 : zin x1) (x2 : Int) (hx2 : zin x2) (σ : z_S) (hσ : zR σ) : zrel (zMod_isSame_b0 N x1 x2 σ) (Mod_isSame_b0 N (zI x1) (zI x2) (zo σ)) := by
  unfold zMod_isSame_b0 Mod_isSame_b0
  refine zr_ite (zI_eq rfl rfl hx1 hx2) ?_ ?_
  · exact zr_of (zMod_isSame_b23_r N  _ hσ) (congrArg (Mod_isSame_b23 N) rfl)
  · exact zr_of (zMod_isSame_b5_r N _ hx1 _ hx2 _ hσ) (congr (congr (congrArg (Mod_isSame_b5 N) rfl) rfl) rfl)
def zMod_isSame (N : Nat) (x1 : Int) (x2 : Int) (σ : z_S) : Option (Int × z_S) := zMod_isSame_b0 N x1 x2 σ
theorem zMod_isSame_r (N : Nat) (x1 : Int) (hx1 : zin x1) (x2 : Int) (hx2 : zin x2) (σ : z_S) (hσ : zR σ) : zrel (zMod_isSame N x1 x2 σ) (Mod_isSame N (zI x1) (zI x2) (zo σ)) := by
  unfold zMod_isSame Mod_isSame
  exact zr_of (zMod_isSame_b0_r N _ hx1 _ hx2 _ hσ) (congr (congr (congrArg (Mod_isSame_b0 N) rfl) rfl) rfl)
def zMod_isWordAt_b31 (N : Nat) (s0 : Int) (σ : z_S) : Option (Int × z_S) := if zB s0 then some (s0, σ) else none
theorem zMod_isWordAt_b31_r (N : Nat) (s0 : Int) (hs0 : zin s0) (σ : z_S) (hσ : zR σ) : zrel (zMod_isWordAt_b31 N s0 σ) (Mod_isWordAt_b31 N (zI s0) (zo σ)) := by
  unfold zMod_isWordAt_b31 Mod_isWordAt_b31
  refine zr_gg (zg_B rfl) (fun g1 => ?_)
  exact zr_some rfl hs0 rfl hσ
def zMod_isWordAt_b30 (N : Nat) (σ : z_S) : Option (Int × z_S) := zMod_isWordAt_b31 N 0 σ
theorem zMod_isWordAt_b30_r (N : Nat) (σ : z_S) (hσ : zR σ) : zrel (zMod_isWordAt_b30 N σ) (Mod_isWordAt_b30 N (zo σ)) := by
  unfold zMod_isWordAt_b30 Mod_isWordAt_b30
  exact zr_of (zMod_isWordAt_b31_r N _ (by decide) _ hσ) (congr (congrArg (Mod_isWordAt_b31 N) (zl_0)) rfl)
def zMod_isWordAt_b26 (N : Nat) (σ : z_S) : Option (Int × z_S) := zMod_isWordAt_b31 N 1 σ
theorem zMod_isWordAt_b26_r (N : Nat) (σ : z_S) (hσ : zR σ) : zrel (zMod_isWordAt_b26 N σ) (Mod_isWordAt_b26 N (zo σ)) := by
  unfold zMod_isWordAt_b26 Mod_isWordAt_b26
  exact zr_of (zMod_isWordAt_b31_r N _ (by decide) _ hσ) (congr (congrArg (Mod_isWordAt_b31 N) (zl_1)) rfl)
def zMod_isWordAt_b14 (N : Nat) (x1 : Int) (σ : z_S) : Option (Int × z_S) := if zIn x1 600 then (zMod_isWord N (σ.2 2 (x1).toNat) σ).bind fun q20 => if q20.1 = 0 then zMod_isWordAt_b30 N q20.2 else zMod_isWordAt_b26 N q20.2 else none
theorem zMod_isWordAt_b14_r (N : Nat) (x1 : Int) (hx1 : zin x1) (σ : z_S) (hσ : zR σ) : zrel (zMod_isWordAt_b14 N x1 σ) (Mod_isWordAt_b14 N (zI x1) (zo σ)) := by
  unfold zMod_isWordAt_b14 Mod_isWordAt_b14
  refine zr_gg (zg_in rfl hx1) (fun g1 => ?_)
  refine zr_bind (zr_of (zMod_isWord_r N _ (hσ.2 2 _) _ hσ) (congr (congrArg (Mod_isWord N) (zo_get (j := 2) rfl rfl hx1)) rfl)) (fun r20 s20σ hr20 hs20 => ?_)
  dsimp only
  refine zr_ite (zI_eq rfl (zl_0) hr20 (by decide)) ?_ ?_
  · exact zr_of (zMod_isWordAt_b30_r N  _ hs20) (congrArg (Mod_isWordAt_b30 N) rfl)
  · exact zr_of (zMod_isWordAt_b26_r N  _ hs20) (congrArg (Mod_isWordAt_b26 N) rfl)
def zMod_isWordAt_b0 (N : Nat) (x1 : Int) (σ : z_S) : Option (Int × z_S) := if zin ((σ.1 7) - 1) then (zMod_in N x1 0 ((σ.1 7) - 1) σ).bind fun q8 => if q8.1 = 0 then zMod_isWordAt_b30 N q8.2 else zMod_isWordAt_b14 N x1 q8.2 else none
theorem zMod_isWordAt_b0_r (N : Nat) (x1 : Int) (hx1 : zin x1) (σ : z_S) (hσ : zR σ) : zrel (zMod_isWordAt_b0 N x1 σ) (Mod_isWordAt_b0 N (zI x1) (zo σ)) := by
  unfold zMod_isWordAt_b0 Mod_isWordAt_b0
  refine zr_g (fun g1 => ?_)
  refine zr_bind (zr_of (zMod_in_r N _ hx1 _ (by decide) _ g1 _ hσ) (congr (congr (congr (congrArg (Mod_in N) rfl) (zl_0)) (zI_sub (zo_fld rfl 7) (zl_1))) rfl)) (fun r8 s8σ hr8 hs8 => ?_)
  dsimp only
  refine zr_ite (zI_eq rfl (zl_0) hr8 (by decide)) ?_ ?_
  · exact zr_of (zMod_isWordAt_b30_r N  _ hs8) (congrArg (Mod_isWordAt_b30 N) rfl)
  · exact zr_of (zMod_isWordAt_b14_r N _ hx1 _ hs8) (congr (congrArg (Mod_isWordAt_b14 N) rfl) rfl)
def zMod_isWordAt (N : Nat) (x1 : Int) (σ : z_S) : Option (Int × z_S) := zMod_isWordAt_b0 N x1 σ
theorem zMod_isWordAt_r (N : Nat) (x1 : Int) (hx1 : zin x1) (σ : z_S) (hσ : zR σ) : zrel (zMod_isWordAt N x1 σ) (Mod_isWordAt N (zI x1) (zo σ)) := by
  unfold zMod_isWordAt Mod_isWordAt
  exact zr_of (zMod_isWordAt_b0_r N _ hx1 _ hσ) (congr (congrArg (Mod_isWordAt_b0 N) rfl) rfl)
def zMod_refers_b90 (N : Nat) (x3 : Int) (σ : z_S) : Option (Int × z_S) := if zin ((σ.1 11) + x3) then some (1, (zF σ 11 ((σ.1 11) + x3))) else none
theorem zMod_refers_b90_r (N : Nat) (x3 : Int) (hx3 : zin x3) (σ : z_S) (hσ : zR σ) : zrel (zMod_refers_b90 N x3 σ) (Mod_refers_b90 N (zI x3) (zo σ)) := by
  unfold zMod_refers_b90 Mod_refers_b90
  refine zr_g (fun g1 => ?_)
  exact zr_some (zl_1) (by decide) (zo_F (k := 11) rfl (zI_add (zo_fld rfl 11) rfl)) (zR_F (k := 11) hσ g1)
def zMod_refers_b84 (N : Nat) (k48 : Int → Int → Int → z_S → Option (Int × z_S)) (x2 : Int) (x3 : Int) (x4 : Int) (σ : z_S) : Option (Int × z_S) := if zin (x4 + 1) then k48 x2 x3 (x4 + 1) σ else none
theorem zMod_refers_b84_r (N : Nat) (k48 : Int → Int → Int → z_S → Option (Int × z_S)) (k48' : Int32 → Int32 → Int32 → g_S → Option (Int32 × g_S)) (hk48 : ∀ (y0 : Int) (_ : zin y0) (y1 : Int) (_ : zin y1) (y2 : Int) (_ : zin y2) (σ : z_S), zR σ → zrel (k48 y0 y1 y2 σ) (k48' (zI y0) (zI y1) (zI y2) (zo σ))) (x2 : Int) (hx2 : zin x2) (x3 : Int) (hx3 : zin x3) (x4 : Int) (hx4 : zin x4) (σ : z_S) (hσ : zR σ) : zrel (zMod_refers_b84 N k48 x2 x3 x4 σ) (Mod_refers_b84 N k48' (zI x2) (zI x3) (zI x4) (zo σ)) := by
  unfold zMod_refers_b84 Mod_refers_b84
  refine zr_g (fun g1 => ?_)
  exact zr_of (hk48 _ hx2 _ hx3 _ g1 _ hσ) (congr (congr (congr (congrArg (k48') rfl) rfl) (zI_add rfl (zl_1))) rfl)
def zMod_refers_b82 (N : Nat) (σ : z_S) : Option (Int × z_S) := some (0, σ)
theorem zMod_refers_b82_r (N : Nat) (σ : z_S) (hσ : zR σ) : zrel (zMod_refers_b82 N σ) (Mod_refers_b82 N (zo σ)) := by
  unfold zMod_refers_b82 Mod_refers_b82
  exact zr_some (zl_0) (by decide) rfl hσ
def zMod_refers_b54 (N : Nat) (k48 : Int → Int → Int → z_S → Option (Int × z_S)) (x2 : Int) (x3 : Int) (x4 : Int) (σ : z_S) : Option (Int × z_S) := if zin (x2 + x4) then if zIn (x2 + x4) 600 then if zin ((σ.1 11) + x4) then if zIn ((σ.1 11) + x4) 600 then (zMod_isSame N (σ.2 2 ((x2 + x4)).toNat) (σ.2 2 (((σ.1 11) + x4)).toNat) σ).bind fun q76 => if q76.1 = 0 then zMod_refers_b82 N q76.2 else zMod_refers_b84 N k48 x2 x3 x4 q76.2 else none else none else none else none
theorem zMod_refers_b54_r (N : Nat) (k48 : Int → Int → Int → z_S → Option (Int × z_S)) (k48' : Int32 → Int32 → Int32 → g_S → Option (Int32 × g_S)) (hk48 : ∀ (y0 : Int) (_ : zin y0) (y1 : Int) (_ : zin y1) (y2 : Int) (_ : zin y2) (σ : z_S), zR σ → zrel (k48 y0 y1 y2 σ) (k48' (zI y0) (zI y1) (zI y2) (zo σ))) (x2 : Int) (hx2 : zin x2) (x3 : Int) (hx3 : zin x3) (x4 : Int) (hx4 : zin x4) (σ : z_S) (hσ : zR σ) : zrel (zMod_refers_b54 N k48 x2 x3 x4 σ) (Mod_refers_b54 N k48' (zI x2) (zI x3) (zI x4) (zo σ)) := by
  unfold zMod_refers_b54 Mod_refers_b54
  refine zr_g (fun g1 => ?_)
  refine zr_gg (zg_in (zI_add rfl rfl) g1) (fun g2 => ?_)
  refine zr_g (fun g3 => ?_)
  refine zr_gg (zg_in (zI_add (zo_fld rfl 11) rfl) g3) (fun g4 => ?_)
  refine zr_bind (zr_of (zMod_isSame_r N _ (hσ.2 2 _) _ (hσ.2 2 _) _ hσ) (congr (congr (congrArg (Mod_isSame N) (zo_get (j := 2) rfl (zI_add rfl rfl) g1)) (zo_get (j := 2) rfl (zI_add (zo_fld rfl 11) rfl) g3)) rfl)) (fun r76 s76σ hr76 hs76 => ?_)
  dsimp only
  refine zr_ite (zI_eq rfl (zl_0) hr76 (by decide)) ?_ ?_
  · exact zr_of (zMod_refers_b82_r N  _ hs76) (congrArg (Mod_refers_b82 N) rfl)
  · exact zr_of (zMod_refers_b84_r N k48 k48' hk48 _ hx2 _ hx3 _ hx4 _ hs76) (congr (congr (congr (congrArg (Mod_refers_b84 N k48') rfl) rfl) rfl) rfl)
def zMod_refers_b48 (N : Nat) (k48 : Int → Int → Int → z_S → Option (Int × z_S)) (x2 : Int) (x3 : Int) (x4 : Int) (σ : z_S) : Option (Int × z_S) := if x3 ≤ x4 then zMod_refers_b90 N x3 σ else zMod_refers_b54 N k48 x2 x3 x4 σ
theorem zMod_refers_b48_r (N : Nat) (k48 : Int → Int → Int → z_S → Option (Int × z_S)) (k48' : Int32 → Int32 → Int32 → g_S → Option (Int32 × g_S)) (hk48 : ∀ (y0 : Int) (_ : zin y0) (y1 : Int) (_ : zin y1) (y2 : Int) (_ : zin y2) (σ : z_S), zR σ → zrel (k48 y0 y1 y2 σ) (k48' (zI y0) (zI y1) (zI y2) (zo σ))) (x2 : Int) (hx2 : zin x2) (x3 : Int) (hx3 : zin x3) (x4 : Int) (hx4 : zin x4) (σ : z_S) (hσ : zR σ) : zrel (zMod_refers_b48 N k48 x2 x3 x4 σ) (Mod_refers_b48 N k48' (zI x2) (zI x3) (zI x4) (zo σ)) := by
  unfold zMod_refers_b48 Mod_refers_b48
  refine zr_ite (zI_le rfl rfl hx3 hx4) ?_ ?_
  · exact zr_of (zMod_refers_b90_r N _ hx3 _ hσ) (congr (congrArg (Mod_refers_b90 N) rfl) rfl)
  · exact zr_of (zMod_refers_b54_r N k48 k48' hk48 _ hx2 _ hx3 _ hx4 _ hσ) (congr (congr (congr (congrArg (Mod_refers_b54 N k48') rfl) rfl) rfl) rfl)
def zMod_refers_l48 (N : Nat) : Nat → Int → Int → Int → z_S → Option (Int × z_S)
  | 0 => fun _ _ _ _ => none
  | n + 1 => fun x2 x3 x4 σ => zMod_refers_b48 N (zMod_refers_l48 N n) x2 x3 x4 σ
theorem zMod_refers_l48_r (N : Nat) (n : Nat) : ∀ (x2 : Int) (hx2 : zin x2) (x3 : Int) (hx3 : zin x3) (x4 : Int) (hx4 : zin x4) (σ : z_S) (_ : zR σ), zrel (zMod_refers_l48 N n x2 x3 x4 σ) (Mod_refers_l48 N n (zI x2) (zI x3) (zI x4) (zo σ)) := by
  induction n with
  | zero => intro x2 hx2 x3 hx3 x4 hx4 σ hσ r s h; cases h
  | succ n ih => intro x2 hx2 x3 hx3 x4 hx4 σ hσ; exact zMod_refers_b48_r N _ _ (fun x2 hx2 x3 hx3 x4 hx4 σ hσ => ih x2 hx2 x3 hx3 x4 hx4 σ hσ) x2 hx2 x3 hx3 x4 hx4 σ hσ
def zMod_refers_b45 (N : Nat) (x2 : Int) (x3 : Int) (σ : z_S) : Option (Int × z_S) := zMod_refers_l48 N N x2 x3 0 σ
theorem zMod_refers_b45_r (N : Nat) (x2 : Int) (hx2 : zin x2) (x3 : Int) (hx3 : zin x3) (σ : z_S) (hσ : zR σ) : zrel (zMod_refers_b45 N x2 x3 σ) (Mod_refers_b45 N (zI x2) (zI x3) (zo σ)) := by
  unfold zMod_refers_b45 Mod_refers_b45
  exact zr_of (zMod_refers_l48_r N N _ hx2 _ hx3 _ (by decide) _ hσ) (congr (congr (congr (congrArg (Mod_refers_l48 N N) rfl) rfl) (zl_0)) rfl)
def zMod_refers_b43 (N : Nat) (σ : z_S) : Option (Int × z_S) := some (0, σ)
theorem zMod_refers_b43_r (N : Nat) (σ : z_S) (hσ : zR σ) : zrel (zMod_refers_b43 N σ) (Mod_refers_b43 N (zo σ)) := by
  unfold zMod_refers_b43 Mod_refers_b43
  exact zr_some (zl_0) (by decide) rfl hσ
def zMod_refers_b29 (N : Nat) (x2 : Int) (s0 : Int) (σ : z_S) : Option (Int × z_S) := if zin ((σ.1 11) + s0) then if ((σ.1 11) + s0) ≤ (σ.1 7) then zMod_refers_b45 N x2 s0 σ else zMod_refers_b43 N σ else none
theorem zMod_refers_b29_r (N : Nat) (x2 : Int) (hx2 : zin x2) (s0 : Int) (hs0 : zin s0) (σ : z_S) (hσ : zR σ) : zrel (zMod_refers_b29 N x2 s0 σ) (Mod_refers_b29 N (zI x2) (zI s0) (zo σ)) := by
  unfold zMod_refers_b29 Mod_refers_b29
  refine zr_g (fun g1 => ?_)
  refine zr_ite (zI_le (zI_add (zo_fld rfl 11) rfl) (zo_fld rfl 7) g1 (hσ.1 7)) ?_ ?_
  · exact zr_of (zMod_refers_b45_r N _ hx2 _ hs0 _ hσ) (congr (congr (congrArg (Mod_refers_b45 N) rfl) rfl) rfl)
  · exact zr_of (zMod_refers_b43_r N  _ hσ) (congrArg (Mod_refers_b43 N) rfl)
def zMod_refers_b17 (N : Nat) (x1 : Int) (x2 : Int) (σ : z_S) : Option (Int × z_S) := if zin (2 * x1) then if zin ((2 * x1) + 1) then if zIn ((2 * x1) + 1) 42 then if zin ((σ.2 17 (((2 * x1) + 1)).toNat) - x2) then zMod_refers_b29 N x2 ((σ.2 17 (((2 * x1) + 1)).toNat) - x2) σ else none else none else none else none
theorem zMod_refers_b17_r (N : Nat) (x1 : Int) (hx1 : zin x1) (x2 : Int) (hx2 : zin x2) (σ : z_S) (hσ : zR σ) : zrel (zMod_refers_b17 N x1 x2 σ) (Mod_refers_b17 N (zI x1) (zI x2) (zo σ)) := by
  unfold zMod_refers_b17 Mod_refers_b17
  refine zr_g (fun g1 => ?_)
  refine zr_g (fun g2 => ?_)
  refine zr_gg (zg_in (zI_add (zI_mul (zl_2) rfl) (zl_1)) g2) (fun g3 => ?_)
  refine zr_g (fun g4 => ?_)
  exact zr_of (zMod_refers_b29_r N _ hx2 _ g4 _ hσ) (congr (congr (congrArg (Mod_refers_b29 N) rfl) (zI_sub (zo_get (j := 17) rfl (zI_add (zI_mul (zl_2) rfl) (zl_1)) g2) rfl)) rfl)
def zMod_refers_b13 (N : Nat) (x2 : Int) (σ : z_S) : Option (Int × z_S) := zMod_refers_b29 N x2 0 σ
theorem zMod_refers_b13_r (N : Nat) (x2 : Int) (hx2 : zin x2) (σ : z_S) (hσ : zR σ) : zrel (zMod_refers_b13 N x2 σ) (Mod_refers_b13 N (zI x2) (zo σ)) := by
  unfold zMod_refers_b13 Mod_refers_b13
  exact zr_of (zMod_refers_b29_r N _ hx2 _ (by decide) _ hσ) (congr (congr (congrArg (Mod_refers_b29 N) rfl) (zl_0)) rfl)
def zMod_refers_b0 (N : Nat) (x1 : Int) (σ : z_S) : Option (Int × z_S) := if zin (2 * x1) then if zIn (2 * x1) 42 then if (0 : Int) ≤ (σ.2 17 ((2 * x1)).toNat) then zMod_refers_b17 N x1 (σ.2 17 ((2 * x1)).toNat) σ else zMod_refers_b13 N (σ.2 17 ((2 * x1)).toNat) σ else none else none
theorem zMod_refers_b0_r (N : Nat) (x1 : Int) (hx1 : zin x1) (σ : z_S) (hσ : zR σ) : zrel (zMod_refers_b0 N x1 σ) (Mod_refers_b0 N (zI x1) (zo σ)) := by
  unfold zMod_refers_b0 Mod_refers_b0
  refine zr_g (fun g1 => ?_)
  refine zr_gg (zg_in (zI_mul (zl_2) rfl) g1) (fun g2 => ?_)
  refine zr_ite (zI_le (zl_0) (zo_get (j := 17) rfl (zI_mul (zl_2) rfl) g1) (by decide) (hσ.2 17 _)) ?_ ?_
  · exact zr_of (zMod_refers_b17_r N _ hx1 _ (hσ.2 17 _) _ hσ) (congr (congr (congrArg (Mod_refers_b17 N) rfl) (zo_get (j := 17) rfl (zI_mul (zl_2) rfl) g1)) rfl)
  · exact zr_of (zMod_refers_b13_r N _ (hσ.2 17 _) _ hσ) (congr (congrArg (Mod_refers_b13 N) (zo_get (j := 17) rfl (zI_mul (zl_2) rfl) g1)) rfl)
def zMod_refers (N : Nat) (x1 : Int) (σ : z_S) : Option (Int × z_S) := zMod_refers_b0 N x1 σ
theorem zMod_refers_r (N : Nat) (x1 : Int) (hx1 : zin x1) (σ : z_S) (hσ : zR σ) : zrel (zMod_refers N x1 σ) (Mod_refers N (zI x1) (zo σ)) := by
  unfold zMod_refers Mod_refers
  exact zr_of (zMod_refers_b0_r N _ hx1 _ hσ) (congr (congrArg (Mod_refers_b0 N) rfl) rfl)
