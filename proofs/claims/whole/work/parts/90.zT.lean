def zDesk_put_b10 (N : Nat) (σ : z_S) : Option (z_R × z_S) := some (.inr false, σ)
theorem zDesk_put_b10_r (N : Nat) (σ : z_S) (hσ : zR σ) : zrelT (zDesk_put_b10 N σ) (Desk_put_b10 N (zo σ)) := by
  unfold zDesk_put_b10 Desk_put_b10
  exact zt_thr rfl hσ
def zDesk_put_b94 (N : Nat) (σ : z_S) : Option (z_R × z_S) := some (.inl (σ.1 0), σ)
theorem zDesk_put_b94_r (N : Nat) (σ : z_S) (hσ : zR σ) : zrelT (zDesk_put_b94 N σ) (Desk_put_b94 N (zo σ)) := by
  unfold zDesk_put_b94 Desk_put_b94
  exact zt_some (zo_fld rfl 0) (hσ.1 0) rfl hσ
def zDesk_put_b52 (N : Nat) (k47 : Int64 → Int → z_S → Option (z_R × z_S)) (x1 : Int64) (x4 : Int) (σ : z_S) : Option (z_R × z_S) := if zin (16 * x4) then (zRows_write N 0 (σ.1 0) (zlc x1 (16 * x4)) σ).bind fun q75 => if zin (x4 + (-1)) then if zin ((q75.2.1 0) + 1) then k47 x1 (x4 + (-1)) (zF q75.2 0 ((q75.2.1 0) + 1)) else none else none else none
theorem zDesk_put_b52_r (N : Nat) (k47 : Int64 → Int → z_S → Option (z_R × z_S)) (k47' : Int64 → Int32 → g_S → Option (g_R × g_S)) (hk47 : ∀ (y0 : Int64) (y1 : Int) (_ : zin y1) (σ : z_S), zR σ → zrelT (k47 y0 y1 σ) (k47' y0 (zI y1) (zo σ))) (x1 : Int64) (x4 : Int) (hx4 : zin x4) (σ : z_S) (hσ : zR σ) : zrelT (zDesk_put_b52 N k47 x1 x4 σ) (Desk_put_b52 N k47' x1 (zI x4) (zo σ)) := by
  unfold zDesk_put_b52 Desk_put_b52
  refine zt_g (fun g1 => ?_)
  refine zt_bind (zr_of (zRows_write_r N 0 _ (hσ.1 0) _ (zin_toInt _) _ hσ) (congr (congr (congrArg (Rows_write N 0) (zo_fld rfl 0)) (zI_lc (x := x1) (zI_mul (zl_16) rfl))) rfl)) (fun r75 s75σ hr75 hs75 => ?_)
  dsimp only
  refine zt_g (fun g2 => ?_)
  refine zt_g (fun g3 => ?_)
  exact zt_of (hk47 x1 _ g2 _ (zR_F (k := 0) hs75 g3)) (congr (congr (congrArg (k47') (rfl : x1 = x1)) (zI_add rfl (zl_m1))) (zo_F (k := 0) rfl (zI_add (zo_fld rfl 0) (zl_1))))
def zDesk_put_b47 (N : Nat) (k47 : Int64 → Int → z_S → Option (z_R × z_S)) (x1 : Int64) (x4 : Int) (σ : z_S) : Option (z_R × z_S) := if x4 < 0 then zDesk_put_b94 N σ else zDesk_put_b52 N k47 x1 x4 σ
theorem zDesk_put_b47_r (N : Nat) (k47 : Int64 → Int → z_S → Option (z_R × z_S)) (k47' : Int64 → Int32 → g_S → Option (g_R × g_S)) (hk47 : ∀ (y0 : Int64) (y1 : Int) (_ : zin y1) (σ : z_S), zR σ → zrelT (k47 y0 y1 σ) (k47' y0 (zI y1) (zo σ))) (x1 : Int64) (x4 : Int) (hx4 : zin x4) (σ : z_S) (hσ : zR σ) : zrelT (zDesk_put_b47 N k47 x1 x4 σ) (Desk_put_b47 N k47' x1 (zI x4) (zo σ)) := by
  unfold zDesk_put_b47 Desk_put_b47
  refine zt_ite (zI_lt rfl (zl_0) hx4 (by decide)) ?_ ?_
  · exact zt_of (zDesk_put_b94_r N  _ hσ) (congrArg (Desk_put_b94 N) rfl)
  · exact zt_of (zDesk_put_b52_r N k47 k47' hk47 x1 _ hx4 _ hσ) (congr (congr (congrArg (Desk_put_b52 N k47') (rfl : x1 = x1)) rfl) rfl)
def zDesk_put_l47 (N : Nat) : Nat → Int64 → Int → z_S → Option (z_R × z_S)
  | 0 => fun _ _ _ => none
  | n + 1 => fun x1 x4 σ => zDesk_put_b47 N (zDesk_put_l47 N n) x1 x4 σ
theorem zDesk_put_l47_r (N : Nat) (n : Nat) : ∀ (x1 : Int64) (x4 : Int) (hx4 : zin x4) (σ : z_S) (_ : zR σ), zrelT (zDesk_put_l47 N n x1 x4 σ) (Desk_put_l47 N n x1 (zI x4) (zo σ)) := by
  induction n with
  | zero => intro x1 x4 hx4 σ hσ r s h; cases h
  | succ n ih => intro x1 x4 hx4 σ hσ; exact zDesk_put_b47_r N _ _ (fun x1 x4 hx4 σ hσ => ih x1 x4 hx4 σ hσ) x1 x4 hx4 σ hσ
def zDesk_put_b42 (N : Nat) (x1 : Int64) (x3 : Int) (σ : z_S) : Option (z_R × z_S) := if zin (x3 - 1) then zDesk_put_l47 N N x1 (x3 - 1) σ else none
theorem zDesk_put_b42_r (N : Nat) (x1 : Int64) (x3 : Int) (hx3 : zin x3) (σ : z_S) (hσ : zR σ) : zrelT (zDesk_put_b42 N x1 x3 σ) (Desk_put_b42 N x1 (zI x3) (zo σ)) := by
  unfold zDesk_put_b42 Desk_put_b42
  refine zt_g (fun g1 => ?_)
  exact zt_of (zDesk_put_l47_r N N x1 _ g1 _ hσ) (congr (congr (congrArg (Desk_put_l47 N N) (rfl : x1 = x1)) (zI_sub rfl (zl_1))) rfl)
def zDesk_put_b32 (N : Nat) (σ : z_S) : Option (z_R × z_S) := some (.inr true, σ)
theorem zDesk_put_b32_r (N : Nat) (σ : z_S) (hσ : zR σ) : zrelT (zDesk_put_b32 N σ) (Desk_put_b32 N (zo σ)) := by
  unfold zDesk_put_b32 Desk_put_b32
  exact zt_thr rfl hσ
def zDesk_put_b20 (N : Nat) (x1 : Int64) (x3 : Int) (σ : z_S) : Option (z_R × z_S) := if zin ((σ.1 0) + x3) then if ((σ.1 0) + x3) ≤ 600 then zDesk_put_b42 N x1 x3 σ else zDesk_put_b32 N σ else none
theorem zDesk_put_b20_r (N : Nat) (x1 : Int64) (x3 : Int) (hx3 : zin x3) (σ : z_S) (hσ : zR σ) : zrelT (zDesk_put_b20 N x1 x3 σ) (Desk_put_b20 N x1 (zI x3) (zo σ)) := by
  unfold zDesk_put_b20 Desk_put_b20
  refine zt_g (fun g1 => ?_)
  refine zt_ite (zI_le (zI_add (zo_fld rfl 0) rfl) (zl_600) g1 (by decide)) ?_ ?_
  · exact zt_of (zDesk_put_b42_r N x1 _ hx3 _ hσ) (congr (congr (congrArg (Desk_put_b42 N) (rfl : x1 = x1)) rfl) rfl)
  · exact zt_of (zDesk_put_b32_r N  _ hσ) (congrArg (Desk_put_b32 N) rfl)
def zDesk_put_b5 (N : Nat) (x1 : Int64) (x3 : Int) (σ : z_S) : Option (z_R × z_S) := if x3 ≤ 4 then zDesk_put_b20 N x1 x3 σ else zDesk_put_b10 N σ
theorem zDesk_put_b5_r (N : Nat) (x1 : Int64) (x3 : Int) (hx3 : zin x3) (σ : z_S) (hσ : zR σ) : zrelT (zDesk_put_b5 N x1 x3 σ) (Desk_put_b5 N x1 (zI x3) (zo σ)) := by
  unfold zDesk_put_b5 Desk_put_b5
  refine zt_ite (zI_le rfl (zl_4) hx3 (by decide)) ?_ ?_
  · exact zt_of (zDesk_put_b20_r N x1 _ hx3 _ hσ) (congr (congr (congrArg (Desk_put_b20 N) (rfl : x1 = x1)) rfl) rfl)
  · exact zt_of (zDesk_put_b10_r N  _ hσ) (congrArg (Desk_put_b10 N) rfl)
def zDesk_put_b0 (N : Nat) (x1 : Int64) (x3 : Int) (σ : z_S) : Option (z_R × z_S) := if x3 < 1 then zDesk_put_b10 N σ else zDesk_put_b5 N x1 x3 σ
theorem zDesk_put_b0_r (N : Nat) (x1 : Int64) (x3 : Int) (hx3 : zin x3) (σ : z_S) (hσ : zR σ) : zrelT (zDesk_put_b0 N x1 x3 σ) (Desk_put_b0 N x1 (zI x3) (zo σ)) := by
  unfold zDesk_put_b0 Desk_put_b0
  refine zt_ite (zI_lt rfl (zl_1) hx3 (by decide)) ?_ ?_
  · exact zt_of (zDesk_put_b10_r N  _ hσ) (congrArg (Desk_put_b10 N) rfl)
  · exact zt_of (zDesk_put_b5_r N x1 _ hx3 _ hσ) (congr (congr (congrArg (Desk_put_b5 N) (rfl : x1 = x1)) rfl) rfl)
def zDesk_put (N : Nat) (x1 : Int64) (x3 : Int) (σ : z_S) : Option (z_R × z_S) := zDesk_put_b0 N x1 x3 σ
theorem zDesk_put_r (N : Nat) (x1 : Int64) (x3 : Int) (hx3 : zin x3) (σ : z_S) (hσ : zR σ) : zrelT (zDesk_put N x1 x3 σ) (Desk_put N x1 (zI x3) (zo σ)) := by
  unfold zDesk_put Desk_put
  exact zt_of (zDesk_put_b0_r N x1 _ hx3 _ hσ) (congr (congr (congrArg (Desk_put_b0 N) (rfl : x1 = x1)) rfl) rfl)
def zDesk_group_b32 (N : Nat) (σ : z_S) : Option (z_R × z_S) := some (.inr false, σ)
theorem zDesk_group_b32_r (N : Nat) (σ : z_S) (hσ : zR σ) : zrelT (zDesk_group_b32 N σ) (Desk_group_b32 N (zo σ)) := by
  unfold zDesk_group_b32 Desk_group_b32
  exact zt_thr rfl hσ
def zDesk_group_b65 (N : Nat) (s0 : Int) (σ : z_S) : Option (z_R × z_S) := some (.inl s0, σ)
theorem zDesk_group_b65_r (N : Nat) (s0 : Int) (hs0 : zin s0) (σ : z_S) (hσ : zR σ) : zrelT (zDesk_group_b65 N s0 σ) (Desk_group_b65 N (zI s0) (zo σ)) := by
  unfold zDesk_group_b65 Desk_group_b65
  exact zt_some rfl hs0 rfl hσ
def zDesk_group_b57 (N : Nat) (x1 : Int) (σ : z_S) : Option (z_R × z_S) := (zMachine_groupBegin N x1 σ).bind fun q62 => zDesk_group_b65 N q62.1 q62.2
theorem zDesk_group_b57_r (N : Nat) (x1 : Int) (hx1 : zin x1) (σ : z_S) (hσ : zR σ) : zrelT (zDesk_group_b57 N x1 σ) (Desk_group_b57 N (zI x1) (zo σ)) := by
  unfold zDesk_group_b57 Desk_group_b57
  refine zt_bind (zr_of (zMachine_groupBegin_r N _ hx1 _ hσ) (congr (congrArg (Machine_groupBegin N) rfl) rfl)) (fun r62 s62σ hr62 hs62 => ?_)
  dsimp only
  exact zt_of (zDesk_group_b65_r N _ hr62 _ hs62) (congr (congrArg (Desk_group_b65 N) rfl) rfl)
def zDesk_group_b46 (N : Nat) (x1 : Int) (σ : z_S) : Option (z_R × z_S) := (zMachine_groupEnd N x1 σ).bind fun q51 => zDesk_group_b65 N q51.1 q51.2
theorem zDesk_group_b46_r (N : Nat) (x1 : Int) (hx1 : zin x1) (σ : z_S) (hσ : zR σ) : zrelT (zDesk_group_b46 N x1 σ) (Desk_group_b46 N (zI x1) (zo σ)) := by
  unfold zDesk_group_b46 Desk_group_b46
  refine zt_bind (zr_of (zMachine_groupEnd_r N _ hx1 _ hσ) (congr (congrArg (Machine_groupEnd N) rfl) rfl)) (fun r51 s51σ hr51 hs51 => ?_)
  dsimp only
  exact zt_of (zDesk_group_b65_r N _ hr51 _ hs51) (congr (congrArg (Desk_group_b65 N) rfl) rfl)
def zDesk_group_b42 (N : Nat) (x1 : Int) (x2 : Int) (σ : z_S) : Option (z_R × z_S) := if x2 = 0 then zDesk_group_b57 N x1 σ else zDesk_group_b46 N x1 σ
theorem zDesk_group_b42_r (N : Nat) (x1 : Int) (hx1 : zin x1) (x2 : Int) (hx2 : zin x2) (σ : z_S) (hσ : zR σ) : zrelT (zDesk_group_b42 N x1 x2 σ) (Desk_group_b42 N (zI x1) (zI x2) (zo σ)) := by
  unfold zDesk_group_b42 Desk_group_b42
  refine zt_ite (zI_eq rfl (zl_0) hx2 (by decide)) ?_ ?_
  · exact zt_of (zDesk_group_b57_r N _ hx1 _ hσ) (congr (congrArg (Desk_group_b57 N) rfl) rfl)
  · exact zt_of (zDesk_group_b46_r N _ hx1 _ hσ) (congr (congrArg (Desk_group_b46 N) rfl) rfl)
def zDesk_group_b21 (N : Nat) (x1 : Int) (x2 : Int) (σ : z_S) : Option (z_R × z_S) := if x1 ≤ (σ.1 8) then zDesk_group_b42 N x1 x2 σ else zDesk_group_b32 N σ
theorem zDesk_group_b21_r (N : Nat) (x1 : Int) (hx1 : zin x1) (x2 : Int) (hx2 : zin x2) (σ : z_S) (hσ : zR σ) : zrelT (zDesk_group_b21 N x1 x2 σ) (Desk_group_b21 N (zI x1) (zI x2) (zo σ)) := by
  unfold zDesk_group_b21 Desk_group_b21
  refine zt_ite (zI_le rfl (zo_fld rfl 8) hx1 (hσ.1 8)) ?_ ?_
  · exact zt_of (zDesk_group_b42_r N _ hx1 _ hx2 _ hσ) (congr (congr (congrArg (Desk_group_b42 N) rfl) rfl) rfl)
  · exact zt_of (zDesk_group_b32_r N  _ hσ) (congrArg (Desk_group_b32 N) rfl)
def zDesk_group_b17 (N : Nat) (x1 : Int) (x2 : Int) (σ : z_S) : Option (z_R × z_S) := if x1 < 0 then zDesk_group_b32 N σ else zDesk_group_b21 N x1 x2 σ
theorem zDesk_group_b17_r (N : Nat) (x1 : Int) (hx1 : zin x1) (x2 : Int) (hx2 : zin x2) (σ : z_S) (hσ : zR σ) : zrelT (zDesk_group_b17 N x1 x2 σ) (Desk_group_b17 N (zI x1) (zI x2) (zo σ)) := by
  unfold zDesk_group_b17 Desk_group_b17
  refine zt_ite (zI_lt rfl (zl_0) hx1 (by decide)) ?_ ?_
  · exact zt_of (zDesk_group_b32_r N  _ hσ) (congrArg (Desk_group_b32 N) rfl)
  · exact zt_of (zDesk_group_b21_r N _ hx1 _ hx2 _ hσ) (congr (congr (congrArg (Desk_group_b21 N) rfl) rfl) rfl)
def zDesk_group_b7 (N : Nat) (σ : z_S) : Option (z_R × z_S) := some (.inr true, σ)
theorem zDesk_group_b7_r (N : Nat) (σ : z_S) (hσ : zR σ) : zrelT (zDesk_group_b7 N σ) (Desk_group_b7 N (zo σ)) := by
  unfold zDesk_group_b7 Desk_group_b7
  exact zt_thr rfl hσ
def zDesk_group_b0 (N : Nat) (x1 : Int) (x2 : Int) (σ : z_S) : Option (z_R × z_S) := if (σ.1 3) = 0 then zDesk_group_b7 N σ else zDesk_group_b17 N x1 x2 σ
theorem zDesk_group_b0_r (N : Nat) (x1 : Int) (hx1 : zin x1) (x2 : Int) (hx2 : zin x2) (σ : z_S) (hσ : zR σ) : zrelT (zDesk_group_b0 N x1 x2 σ) (Desk_group_b0 N (zI x1) (zI x2) (zo σ)) := by
  unfold zDesk_group_b0 Desk_group_b0
  refine zt_ite (zI_eq (zo_fld rfl 3) (zl_0) (hσ.1 3) (by decide)) ?_ ?_
  · exact zt_of (zDesk_group_b7_r N  _ hσ) (congrArg (Desk_group_b7 N) rfl)
  · exact zt_of (zDesk_group_b17_r N _ hx1 _ hx2 _ hσ) (congr (congr (congrArg (Desk_group_b17 N) rfl) rfl) rfl)
def zDesk_group (N : Nat) (x1 : Int) (x2 : Int) (σ : z_S) : Option (z_R × z_S) := zDesk_group_b0 N x1 x2 σ
theorem zDesk_group_r (N : Nat) (x1 : Int) (hx1 : zin x1) (x2 : Int) (hx2 : zin x2) (σ : z_S) (hσ : zR σ) : zrelT (zDesk_group N x1 x2 σ) (Desk_group N (zI x1) (zI x2) (zo σ)) := by
  unfold zDesk_group Desk_group
  exact zt_of (zDesk_group_b0_r N _ hx1 _ hx2 _ hσ) (congr (congr (congrArg (Desk_group_b0 N) rfl) rfl) rfl)
def zDesk_checkTry_b15 (N : Nat) (σ : z_S) : Option (z_R × z_S) := some (.inr false, σ)
theorem zDesk_checkTry_b15_r (N : Nat) (σ : z_S) (hσ : zR σ) : zrelT (zDesk_checkTry_b15 N σ) (Desk_checkTry_b15 N (zo σ)) := by
  unfold zDesk_checkTry_b15 Desk_checkTry_b15
  exact zt_thr rfl hσ
def zDesk_checkTry_b37 (N : Nat) (σ : z_S) : Option (z_R × z_S) := some (.inr false, σ)
theorem zDesk_checkTry_b37_r (N : Nat) (σ : z_S) (hσ : zR σ) : zrelT (zDesk_checkTry_b37 N σ) (Desk_checkTry_b37 N (zo σ)) := by
  unfold zDesk_checkTry_b37 Desk_checkTry_b37
  exact zt_thr rfl hσ
def zDesk_checkTry_b64 (N : Nat) (σ : z_S) : Option (z_R × z_S) := some (.inl 0, σ)
theorem zDesk_checkTry_b64_r (N : Nat) (σ : z_S) (hσ : zR σ) : zrelT (zDesk_checkTry_b64 N σ) (Desk_checkTry_b64 N (zo σ)) := by
  unfold zDesk_checkTry_b64 Desk_checkTry_b64
  exact zt_some (zl_0) (by decide) rfl hσ
def zDesk_checkTry_b54 (N : Nat) (σ : z_S) : Option (z_R × z_S) := some (.inr true, σ)
theorem zDesk_checkTry_b54_r (N : Nat) (σ : z_S) (hσ : zR σ) : zrelT (zDesk_checkTry_b54 N σ) (Desk_checkTry_b54 N (zo σ)) := by
  unfold zDesk_checkTry_b54 Desk_checkTry_b54
  exact zt_thr rfl hσ
def zDesk_checkTry_b47 (N : Nat) (σ : z_S) : Option (z_R × z_S) := if (σ.1 2) = 0 then zDesk_checkTry_b54 N σ else zDesk_checkTry_b64 N σ
theorem zDesk_checkTry_b47_r (N : Nat) (σ : z_S) (hσ : zR σ) : zrelT (zDesk_checkTry_b47 N σ) (Desk_checkTry_b47 N (zo σ)) := by
  unfold zDesk_checkTry_b47 Desk_checkTry_b47
  refine zt_ite (zI_eq (zo_fld rfl 2) (zl_0) (hσ.1 2) (by decide)) ?_ ?_
  · exact zt_of (zDesk_checkTry_b54_r N  _ hσ) (congrArg (Desk_checkTry_b54 N) rfl)
  · exact zt_of (zDesk_checkTry_b64_r N  _ hσ) (congrArg (Desk_checkTry_b64 N) rfl)
def zDesk_checkTry_b30 (N : Nat) (x2 : Int) (σ : z_S) : Option (z_R × z_S) := if x2 ≤ 10000 then zDesk_checkTry_b47 N σ else zDesk_checkTry_b37 N σ
theorem zDesk_checkTry_b30_r (N : Nat) (x2 : Int) (hx2 : zin x2) (σ : z_S) (hσ : zR σ) : zrelT (zDesk_checkTry_b30 N x2 σ) (Desk_checkTry_b30 N (zI x2) (zo σ)) := by
  unfold zDesk_checkTry_b30 Desk_checkTry_b30
  refine zt_ite (zI_le rfl (zl_10000) hx2 (by decide)) ?_ ?_
  · exact zt_of (zDesk_checkTry_b47_r N  _ hσ) (congrArg (Desk_checkTry_b47 N) rfl)
  · exact zt_of (zDesk_checkTry_b37_r N  _ hσ) (congrArg (Desk_checkTry_b37 N) rfl)
def zDesk_checkTry_b25 (N : Nat) (x2 : Int) (σ : z_S) : Option (z_R × z_S) := if x2 < 1 then zDesk_checkTry_b37 N σ else zDesk_checkTry_b30 N x2 σ
theorem zDesk_checkTry_b25_r (N : Nat) (x2 : Int) (hx2 : zin x2) (σ : z_S) (hσ : zR σ) : zrelT (zDesk_checkTry_b25 N x2 σ) (Desk_checkTry_b25 N (zI x2) (zo σ)) := by
  unfold zDesk_checkTry_b25 Desk_checkTry_b25
  refine zt_ite (zI_lt rfl (zl_1) hx2 (by decide)) ?_ ?_
  · exact zt_of (zDesk_checkTry_b37_r N  _ hσ) (congrArg (Desk_checkTry_b37 N) rfl)
  · exact zt_of (zDesk_checkTry_b30_r N _ hx2 _ hσ) (congr (congrArg (Desk_checkTry_b30 N) rfl) rfl)
def zDesk_checkTry_b4 (N : Nat) (x1 : Int) (x2 : Int) (σ : z_S) : Option (z_R × z_S) := if x1 ≤ (σ.1 26) then zDesk_checkTry_b25 N x2 σ else zDesk_checkTry_b15 N σ
theorem zDesk_checkTry_b4_r (N : Nat) (x1 : Int) (hx1 : zin x1) (x2 : Int) (hx2 : zin x2) (σ : z_S) (hσ : zR σ) : zrelT (zDesk_checkTry_b4 N x1 x2 σ) (Desk_checkTry_b4 N (zI x1) (zI x2) (zo σ)) := by
  unfold zDesk_checkTry_b4 Desk_checkTry_b4
  refine zt_ite (zI_le rfl (zo_fld rfl 26) hx1 (hσ.1 26)) ?_ ?_
  · exact zt_of (zDesk_checkTry_b25_r N _ hx2 _ hσ) (congr (congrArg (Desk_checkTry_b25 N) rfl) rfl)
  · exact zt_of (zDesk_checkTry_b15_r N  _ hσ) (congrArg (Desk_checkTry_b15 N) rfl)
def zDesk_checkTry_b0 (N : Nat) (x1 : Int) (x2 : Int) (σ : z_S) : Option (z_R × z_S) := if x1 < 0 then zDesk_checkTry_b15 N σ else zDesk_checkTry_b4 N x1 x2 σ
theorem zDesk_checkTry_b0_r (N : Nat) (x1 : Int) (hx1 : zin x1) (x2 : Int) (hx2 : zin x2) (σ : z_S) (hσ : zR σ) : zrelT (zDesk_checkTry_b0 N x1 x2 σ) (Desk_checkTry_b0 N (zI x1) (zI x2) (zo σ)) := by
  unfold zDesk_checkTry_b0 Desk_checkTry_b0
  refine zt_ite (zI_lt rfl (zl_0) hx1 (by decide)) ?_ ?_
  · exact zt_of (zDesk_checkTry_b15_r N  _ hσ) (congrArg (Desk_checkTry_b15 N) rfl)
  · exact zt_of (zDesk_checkTry_b4_r N _ hx1 _ hx2 _ hσ) (congr (congr (congrArg (Desk_checkTry_b4 N) rfl) rfl) rfl)
def zDesk_checkTry (N : Nat) (x1 : Int) (x2 : Int) (σ : z_S) : Option (z_R × z_S) := zDesk_checkTry_b0 N x1 x2 σ
theorem zDesk_checkTry_r (N : Nat) (x1 : Int) (hx1 : zin x1) (x2 : Int) (hx2 : zin x2) (σ : z_S) (hσ : zR σ) : zrelT (zDesk_checkTry N x1 x2 σ) (Desk_checkTry N (zI x1) (zI x2) (zo σ)) := by
  unfold zDesk_checkTry Desk_checkTry
  exact zt_of (zDesk_checkTry_b0_r N _ hx1 _ hx2 _ hσ) (congr (congr (congrArg (Desk_checkTry_b0 N) rfl) rfl) rfl)
def zDesk_match_b0 (N : Nat) (x1 : Int) (x2 : Int) (σ : z_S) : Option (z_R × z_S) := zthr (zDesk_checkTry N x1 x2 σ) fun q3 => (zMachine_refuel N x2 q3.2).bind fun q11 => (zMachine_tryAt N x1 q11.2).bind fun q20 => (zDesk_settled N q20.1 q20.2).bind fun q23 => some (.inl q23.1, q23.2)
theorem zDesk_match_b0_r (N : Nat) (x1 : Int) (hx1 : zin x1) (x2 : Int) (hx2 : zin x2) (σ : z_S) (hσ : zR σ) : zrelT (zDesk_match_b0 N x1 x2 σ) (Desk_match_b0 N (zI x1) (zI x2) (zo σ)) := by
  unfold zDesk_match_b0 Desk_match_b0
  refine zt_thrb (zt_of (zDesk_checkTry_r N _ hx1 _ hx2 _ hσ) (congr (congr (congrArg (Desk_checkTry N) rfl) rfl) rfl)) (fun r3 s3σ hr3 hs3 => ?_)
  dsimp only
  refine zt_bind (zr_of (zMachine_refuel_r N _ hx2 _ hs3) (congr (congrArg (Machine_refuel N) rfl) rfl)) (fun r11 s11σ hr11 hs11 => ?_)
  dsimp only
  refine zt_bind (zr_of (zMachine_tryAt_r N _ hx1 _ hs11) (congr (congrArg (Machine_tryAt N) rfl) rfl)) (fun r20 s20σ hr20 hs20 => ?_)
  dsimp only
  refine zt_bind (zr_of (zDesk_settled_r N _ hr20 _ hs20) (congr (congrArg (Desk_settled N) rfl) rfl)) (fun r23 s23σ hr23 hs23 => ?_)
  dsimp only
  exact zt_some rfl hr23 rfl hs23
def zDesk_match (N : Nat) (x1 : Int) (x2 : Int) (σ : z_S) : Option (z_R × z_S) := zDesk_match_b0 N x1 x2 σ
theorem zDesk_match_r (N : Nat) (x1 : Int) (hx1 : zin x1) (x2 : Int) (hx2 : zin x2) (σ : z_S) (hσ : zR σ) : zrelT (zDesk_match N x1 x2 σ) (Desk_match N (zI x1) (zI x2) (zo σ)) := by
  unfold zDesk_match Desk_match
  exact zt_of (zDesk_match_b0_r N _ hx1 _ hx2 _ hσ) (congr (congr (congrArg (Desk_match_b0 N) rfl) rfl) rfl)
def zDesk_find_b51 (N : Nat) (x3 : Int) (σ : z_S) : Option (z_R × z_S) := (zDesk_settled N x3 σ).bind fun q53 => some (.inl q53.1, q53.2)
theorem zDesk_find_b51_r (N : Nat) (x3 : Int) (hx3 : zin x3) (σ : z_S) (hσ : zR σ) : zrelT (zDesk_find_b51 N x3 σ) (Desk_find_b51 N (zI x3) (zo σ)) := by
  unfold zDesk_find_b51 Desk_find_b51
  refine zt_bind (zr_of (zDesk_settled_r N _ hx3 _ hσ) (congr (congrArg (Desk_settled N) rfl) rfl)) (fun r53 s53σ hr53 hs53 => ?_)
  dsimp only
  exact zt_some rfl hr53 rfl hs53
def zDesk_find_b35 (N : Nat) (k19 : Int → Int → z_S → Option (z_R × z_S)) (x4 : Int) (σ : z_S) : Option (z_R × z_S) := (zMachine_tryAt N x4 σ).bind fun q41 => if zin (x4 + 1) then k19 q41.1 (x4 + 1) q41.2 else none
theorem zDesk_find_b35_r (N : Nat) (k19 : Int → Int → z_S → Option (z_R × z_S)) (k19' : Int32 → Int32 → g_S → Option (g_R × g_S)) (hk19 : ∀ (y0 : Int) (_ : zin y0) (y1 : Int) (_ : zin y1) (σ : z_S), zR σ → zrelT (k19 y0 y1 σ) (k19' (zI y0) (zI y1) (zo σ))) (x4 : Int) (hx4 : zin x4) (σ : z_S) (hσ : zR σ) : zrelT (zDesk_find_b35 N k19 x4 σ) (Desk_find_b35 N k19' (zI x4) (zo σ)) := by
  unfold zDesk_find_b35 Desk_find_b35
  refine zt_bind (zr_of (zMachine_tryAt_r N _ hx4 _ hσ) (congr (congrArg (Machine_tryAt N) rfl) rfl)) (fun r41 s41σ hr41 hs41 => ?_)
  dsimp only
  refine zt_g (fun g1 => ?_)
  exact zt_of (hk19 _ hr41 _ g1 _ hs41) (congr (congr (congrArg (k19') rfl) (zI_add rfl (zl_1))) rfl)
def zDesk_find_b31 (N : Nat) (k19 : Int → Int → z_S → Option (z_R × z_S)) (x3 : Int) (x4 : Int) (σ : z_S) : Option (z_R × z_S) := if x3 = 0 then zDesk_find_b35 N k19 x4 σ else zDesk_find_b51 N x3 σ
theorem zDesk_find_b31_r (N : Nat) (k19 : Int → Int → z_S → Option (z_R × z_S)) (k19' : Int32 → Int32 → g_S → Option (g_R × g_S)) (hk19 : ∀ (y0 : Int) (_ : zin y0) (y1 : Int) (_ : zin y1) (σ : z_S), zR σ → zrelT (k19 y0 y1 σ) (k19' (zI y0) (zI y1) (zo σ))) (x3 : Int) (hx3 : zin x3) (x4 : Int) (hx4 : zin x4) (σ : z_S) (hσ : zR σ) : zrelT (zDesk_find_b31 N k19 x3 x4 σ) (Desk_find_b31 N k19' (zI x3) (zI x4) (zo σ)) := by
  unfold zDesk_find_b31 Desk_find_b31
  refine zt_ite (zI_eq rfl (zl_0) hx3 (by decide)) ?_ ?_
  · exact zt_of (zDesk_find_b35_r N k19 k19' hk19 _ hx4 _ hσ) (congr (congrArg (Desk_find_b35 N k19') rfl) rfl)
  · exact zt_of (zDesk_find_b51_r N _ hx3 _ hσ) (congr (congrArg (Desk_find_b51 N) rfl) rfl)
def zDesk_find_b19 (N : Nat) (k19 : Int → Int → z_S → Option (z_R × z_S)) (x3 : Int) (x4 : Int) (σ : z_S) : Option (z_R × z_S) := if (σ.1 26) < x4 then zDesk_find_b51 N x3 σ else zDesk_find_b31 N k19 x3 x4 σ
theorem zDesk_find_b19_r (N : Nat) (k19 : Int → Int → z_S → Option (z_R × z_S)) (k19' : Int32 → Int32 → g_S → Option (g_R × g_S)) (hk19 : ∀ (y0 : Int) (_ : zin y0) (y1 : Int) (_ : zin y1) (σ : z_S), zR σ → zrelT (k19 y0 y1 σ) (k19' (zI y0) (zI y1) (zo σ))) (x3 : Int) (hx3 : zin x3) (x4 : Int) (hx4 : zin x4) (σ : z_S) (hσ : zR σ) : zrelT (zDesk_find_b19 N k19 x3 x4 σ) (Desk_find_b19 N k19' (zI x3) (zI x4) (zo σ)) := by
  unfold zDesk_find_b19 Desk_find_b19
  refine zt_ite (zI_lt (zo_fld rfl 26) rfl (hσ.1 26) hx4) ?_ ?_
  · exact zt_of (zDesk_find_b51_r N _ hx3 _ hσ) (congr (congrArg (Desk_find_b51 N) rfl) rfl)
  · exact zt_of (zDesk_find_b31_r N k19 k19' hk19 _ hx3 _ hx4 _ hσ) (congr (congr (congrArg (Desk_find_b31 N k19') rfl) rfl) rfl)
def zDesk_find_l19 (N : Nat) : Nat → Int → Int → z_S → Option (z_R × z_S)
  | 0 => fun _ _ _ => none
  | n + 1 => fun x3 x4 σ => zDesk_find_b19 N (zDesk_find_l19 N n) x3 x4 σ
theorem zDesk_find_l19_r (N : Nat) (n : Nat) : ∀ (x3 : Int) (hx3 : zin x3) (x4 : Int) (hx4 : zin x4) (σ : z_S) (_ : zR σ), zrelT (zDesk_find_l19 N n x3 x4 σ) (Desk_find_l19 N n (zI x3) (zI x4) (zo σ)) := by
  induction n with
  | zero => intro x3 hx3 x4 hx4 σ hσ r s h; cases h
  | succ n ih => intro x3 hx3 x4 hx4 σ hσ; exact zDesk_find_b19_r N _ _ (fun x3 hx3 x4 hx4 σ hσ => ih x3 hx3 x4 hx4 σ hσ) x3 hx3 x4 hx4 σ hσ
def zDesk_find_b0 (N : Nat) (x1 : Int) (x2 : Int) (σ : z_S) : Option (z_R × z_S) := zthr (zDesk_checkTry N x1 x2 σ) fun q3 => (zMachine_refuel N x2 q3.2).bind fun q11 => zDesk_find_l19 N N 0 x1 q11.2
theorem zDesk_find_b0_r (N : Nat) (x1 : Int) (hx1 : zin x1) (x2 : Int) (hx2 : zin x2) (σ : z_S) (hσ : zR σ) : zrelT (zDesk_find_b0 N x1 x2 σ) (Desk_find_b0 N (zI x1) (zI x2) (zo σ)) := by
  unfold zDesk_find_b0 Desk_find_b0
  refine zt_thrb (zt_of (zDesk_checkTry_r N _ hx1 _ hx2 _ hσ) (congr (congr (congrArg (Desk_checkTry N) rfl) rfl) rfl)) (fun r3 s3σ hr3 hs3 => ?_)
  dsimp only
  refine zt_bind (zr_of (zMachine_refuel_r N _ hx2 _ hs3) (congr (congrArg (Machine_refuel N) rfl) rfl)) (fun r11 s11σ hr11 hs11 => ?_)
  dsimp only
  exact zt_of (zDesk_find_l19_r N N _ (by decide) _ hx1 _ hs11) (congr (congr (congrArg (Desk_find_l19 N N) (zl_0)) rfl) rfl)
def zDesk_find (N : Nat) (x1 : Int) (x2 : Int) (σ : z_S) : Option (z_R × z_S) := zDesk_find_b0 N x1 x2 σ
theorem zDesk_find_r (N : Nat) (x1 : Int) (hx1 : zin x1) (x2 : Int) (hx2 : zin x2) (σ : z_S) (hσ : zR σ) : zrelT (zDesk_find N x1 x2 σ) (Desk_find N (zI x1) (zI x2) (zo σ)) := by
  unfold zDesk_find Desk_find
  exact zt_of (zDesk_find_b0_r N _ hx1 _ hx2 _ hσ) (congr (congr (congrArg (Desk_find_b0 N) rfl) rfl) rfl)
def zDesk_pattern_b73 (N : Nat) (x1 : Int) (x2 : Int) (σ : z_S) : Option (z_R × z_S) := if zB x1 then if zB x2 then some (.inl (σ.1 8), (zF (zF σ 9 x1) 10 x2)) else none else none
theorem zDesk_pattern_b73_r (N : Nat) (x1 : Int) (hx1 : zin x1) (x2 : Int) (hx2 : zin x2) (σ : z_S) (hσ : zR σ) : zrelT (zDesk_pattern_b73 N x1 x2 σ) (Desk_pattern_b73 N (zI x1) (zI x2) (zo σ)) := by
  unfold zDesk_pattern_b73 Desk_pattern_b73
  refine zt_gg (zg_B rfl) (fun g1 => ?_)
  refine zt_gg (zg_B rfl) (fun g2 => ?_)
  exact zt_some (zo_fld rfl 8) (hσ.1 8) (zo_F (k := 10) (zo_F (k := 9) rfl rfl) rfl) (zR_F (k := 10) (zR_F (k := 9) hσ hx1) hx2)
def zDesk_pattern_b63 (N : Nat) (σ : z_S) : Option (z_R × z_S) := some (.inr false, σ)
theorem zDesk_pattern_b63_r (N : Nat) (σ : z_S) (hσ : zR σ) : zrelT (zDesk_pattern_b63 N σ) (Desk_pattern_b63 N (zo σ)) := by
  unfold zDesk_pattern_b63 Desk_pattern_b63
  exact zt_thr rfl hσ
def zDesk_pattern_b53 (N : Nat) (x1 : Int) (x2 : Int) (s1 : Int) (σ : z_S) : Option (z_R × z_S) := if zB s1 then if s1 = 0 then zDesk_pattern_b63 N (zF σ 2 s1) else zDesk_pattern_b73 N x1 x2 (zF σ 2 s1) else none
theorem zDesk_pattern_b53_r (N : Nat) (x1 : Int) (hx1 : zin x1) (x2 : Int) (hx2 : zin x2) (s1 : Int) (hs1 : zin s1) (σ : z_S) (hσ : zR σ) : zrelT (zDesk_pattern_b53 N x1 x2 s1 σ) (Desk_pattern_b53 N (zI x1) (zI x2) (zI s1) (zo σ)) := by
  unfold zDesk_pattern_b53 Desk_pattern_b53
  refine zt_gg (zg_B rfl) (fun g1 => ?_)
  refine zt_ite (zI_eq rfl (zl_0) hs1 (by decide)) ?_ ?_
  · exact zt_of (zDesk_pattern_b63_r N  _ (zR_F (k := 2) hσ hs1)) (congrArg (Desk_pattern_b63 N) (zo_F (k := 2) rfl rfl))
  · exact zt_of (zDesk_pattern_b73_r N _ hx1 _ hx2 _ (zR_F (k := 2) hσ hs1)) (congr (congr (congrArg (Desk_pattern_b73 N) rfl) rfl) (zo_F (k := 2) rfl rfl))
def zDesk_pattern_b52 (N : Nat) (x1 : Int) (x2 : Int) (σ : z_S) : Option (z_R × z_S) := zDesk_pattern_b53 N x1 x2 0 σ
theorem zDesk_pattern_b52_r (N : Nat) (x1 : Int) (hx1 : zin x1) (x2 : Int) (hx2 : zin x2) (σ : z_S) (hσ : zR σ) : zrelT (zDesk_pattern_b52 N x1 x2 σ) (Desk_pattern_b52 N (zI x1) (zI x2) (zo σ)) := by
  unfold zDesk_pattern_b52 Desk_pattern_b52
  exact zt_of (zDesk_pattern_b53_r N _ hx1 _ hx2 _ (by decide) _ hσ) (congr (congr (congr (congrArg (Desk_pattern_b53 N) rfl) rfl) (zl_0)) rfl)
def zDesk_pattern_b48 (N : Nat) (x1 : Int) (x2 : Int) (σ : z_S) : Option (z_R × z_S) := zDesk_pattern_b53 N x1 x2 1 σ
theorem zDesk_pattern_b48_r (N : Nat) (x1 : Int) (hx1 : zin x1) (x2 : Int) (hx2 : zin x2) (σ : z_S) (hσ : zR σ) : zrelT (zDesk_pattern_b48 N x1 x2 σ) (Desk_pattern_b48 N (zI x1) (zI x2) (zo σ)) := by
  unfold zDesk_pattern_b48 Desk_pattern_b48
  exact zt_of (zDesk_pattern_b53_r N _ hx1 _ hx2 _ (by decide) _ hσ) (congr (congr (congr (congrArg (Desk_pattern_b53 N) rfl) rfl) (zl_1)) rfl)
def zDesk_pattern_b37 (N : Nat) (x1 : Int) (x2 : Int) (s1 : Int) (σ : z_S) : Option (z_R × z_S) := if (0 : Int) ≤ s1 then zDesk_pattern_b52 N x1 x2 (zF σ 1 s1) else zDesk_pattern_b48 N x1 x2 (zF σ 1 s1)
theorem zDesk_pattern_b37_r (N : Nat) (x1 : Int) (hx1 : zin x1) (x2 : Int) (hx2 : zin x2) (s1 : Int) (hs1 : zin s1) (σ : z_S) (hσ : zR σ) : zrelT (zDesk_pattern_b37 N x1 x2 s1 σ) (Desk_pattern_b37 N (zI x1) (zI x2) (zI s1) (zo σ)) := by
  unfold zDesk_pattern_b37 Desk_pattern_b37
  refine zt_ite (zI_le (zl_0) rfl (by decide) hs1) ?_ ?_
  · exact zt_of (zDesk_pattern_b52_r N _ hx1 _ hx2 _ (zR_F (k := 1) hσ hs1)) (congr (congr (congrArg (Desk_pattern_b52 N) rfl) rfl) (zo_F (k := 1) rfl rfl))
  · exact zt_of (zDesk_pattern_b48_r N _ hx1 _ hx2 _ (zR_F (k := 1) hσ hs1)) (congr (congr (congrArg (Desk_pattern_b48 N) rfl) rfl) (zo_F (k := 1) rfl rfl))
def zDesk_pattern_b29 (N : Nat) (x1 : Int) (x2 : Int) (x3 : Int) (σ : z_S) : Option (z_R × z_S) := (zReader_readPattern N x3 σ).bind fun q34 => zDesk_pattern_b37 N x1 x2 q34.1 q34.2
theorem zDesk_pattern_b29_r (N : Nat) (x1 : Int) (hx1 : zin x1) (x2 : Int) (hx2 : zin x2) (x3 : Int) (hx3 : zin x3) (σ : z_S) (hσ : zR σ) : zrelT (zDesk_pattern_b29 N x1 x2 x3 σ) (Desk_pattern_b29 N (zI x1) (zI x2) (zI x3) (zo σ)) := by
  unfold zDesk_pattern_b29 Desk_pattern_b29
  refine zt_bind (zr_of (zReader_readPattern_r N _ hx3 _ hσ) (congr (congrArg (Reader_readPattern N) rfl) rfl)) (fun r34 s34σ hr34 hs34 => ?_)
  dsimp only
  exact zt_of (zDesk_pattern_b37_r N _ hx1 _ hx2 _ hr34 _ hs34) (congr (congr (congr (congrArg (Desk_pattern_b37 N) rfl) rfl) rfl) rfl)
def zDesk_pattern_b23 (N : Nat) (x1 : Int) (x2 : Int) (σ : z_S) : Option (z_R × z_S) := zDesk_pattern_b37 N x1 x2 200 σ
theorem zDesk_pattern_b23_r (N : Nat) (x1 : Int) (hx1 : zin x1) (x2 : Int) (hx2 : zin x2) (σ : z_S) (hσ : zR σ) : zrelT (zDesk_pattern_b23 N x1 x2 σ) (Desk_pattern_b23 N (zI x1) (zI x2) (zo σ)) := by
  unfold zDesk_pattern_b23 Desk_pattern_b23
  exact zt_of (zDesk_pattern_b37_r N _ hx1 _ hx2 _ (by decide) _ hσ) (congr (congr (congr (congrArg (Desk_pattern_b37 N) rfl) rfl) (zl_200)) rfl)
def zDesk_pattern_b0 (N : Nat) (x1 : Int) (x2 : Int) (σ : z_S) : Option (z_R × z_S) := if (σ.1 0) ≤ 200 then zDesk_pattern_b29 N x1 x2 (σ.1 0) (zF (zF σ 0 0) 3 0) else zDesk_pattern_b23 N x1 x2 (zF (zF σ 0 0) 3 0)
theorem zDesk_pattern_b0_r (N : Nat) (x1 : Int) (hx1 : zin x1) (x2 : Int) (hx2 : zin x2) (σ : z_S) (hσ : zR σ) : zrelT (zDesk_pattern_b0 N x1 x2 σ) (Desk_pattern_b0 N (zI x1) (zI x2) (zo σ)) := by
  unfold zDesk_pattern_b0 Desk_pattern_b0
  refine zt_ite (zI_le (zo_fld rfl 0) (zl_200) (hσ.1 0) (by decide)) ?_ ?_
  · exact zt_of (zDesk_pattern_b29_r N _ hx1 _ hx2 _ (hσ.1 0) _ (zR_F (k := 3) (zR_F (k := 0) hσ (by decide)) (by decide))) (congr (congr (congr (congrArg (Desk_pattern_b29 N) rfl) rfl) (zo_fld rfl 0)) (zo_F (k := 3) (zo_F (k := 0) rfl (zl_0)) (zl_0)))
  · exact zt_of (zDesk_pattern_b23_r N _ hx1 _ hx2 _ (zR_F (k := 3) (zR_F (k := 0) hσ (by decide)) (by decide))) (congr (congr (congrArg (Desk_pattern_b23 N) rfl) rfl) (zo_F (k := 3) (zo_F (k := 0) rfl (zl_0)) (zl_0)))
def zDesk_pattern (N : Nat) (x1 : Int) (x2 : Int) (σ : z_S) : Option (z_R × z_S) := zDesk_pattern_b0 N x1 x2 σ
theorem zDesk_pattern_r (N : Nat) (x1 : Int) (hx1 : zin x1) (x2 : Int) (hx2 : zin x2) (σ : z_S) (hσ : zR σ) : zrelT (zDesk_pattern N x1 x2 σ) (Desk_pattern N (zI x1) (zI x2) (zo σ)) := by
  unfold zDesk_pattern Desk_pattern
  exact zt_of (zDesk_pattern_b0_r N _ hx1 _ hx2 _ hσ) (congr (congr (congrArg (Desk_pattern_b0 N) rfl) rfl) rfl)
