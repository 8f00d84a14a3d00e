def zDesk_place_b0 (N : Nat) (σ : z_S) : Option (Int × z_S) := some ((σ.1 1), σ)
theorem zDesk_place_b0_r (N : Nat) (σ : z_S) (hσ : zR σ) : zrel (zDesk_place_b0 N σ) (Desk_place_b0 N (zo σ)) := by
  unfold zDesk_place_b0 Desk_place_b0
  exact zr_some (zo_fld rfl 1) (hσ.1 1) rfl hσ
def zDesk_place (N : Nat) (σ : z_S) : Option (Int × z_S) := zDesk_place_b0 N σ
theorem zDesk_place_r (N : Nat) (σ : z_S) (hσ : zR σ) : zrel (zDesk_place N σ) (Desk_place N (zo σ)) := by
  unfold zDesk_place Desk_place
  exact zr_of (zDesk_place_b0_r N  _ hσ) (congrArg (Desk_place_b0 N) rfl)
def zRows_read_b17 (N : Nat) (j0 : Nat) (s0 : Int) (σ : z_S) : Option (Int × z_S) := some (s0, σ)
theorem zRows_read_b17_r (N : Nat) (j0 : Nat) (s0 : Int) (hs0 : zin s0) (σ : z_S) (hσ : zR σ) : zrel (zRows_read_b17 N j0 s0 σ) (Rows_read_b17 N j0 (zI s0) (zo σ)) := by
  unfold zRows_read_b17 Rows_read_b17
  exact zr_some rfl hs0 rfl hσ
def zRows_read_b16 (N : Nat) (j0 : Nat) (σ : z_S) : Option (Int × z_S) := zRows_read_b17 N j0 0 σ
theorem zRows_read_b16_r (N : Nat) (j0 : Nat) (σ : z_S) (hσ : zR σ) : zrel (zRows_read_b16 N j0 σ) (Rows_read_b16 N j0 (zo σ)) := by
  unfold zRows_read_b16 Rows_read_b16
  exact zr_of (zRows_read_b17_r N j0 _ (by decide) _ hσ) (congr (congrArg (Rows_read_b17 N j0) (zl_0)) rfl)
def zRows_read_b10 (N : Nat) (j0 : Nat) (x1 : Int) (σ : z_S) : Option (Int × z_S) := if j0 < nAC ∧ zIn x1 (lenC j0) then zRows_read_b17 N j0 (σ.2 j0 (x1).toNat) σ else none
theorem zRows_read_b10_r (N : Nat) (j0 : Nat) (x1 : Int) (hx1 : zin x1) (σ : z_S) (hσ : zR σ) : zrel (zRows_read_b10 N j0 x1 σ) (Rows_read_b10 N j0 (zI x1) (zo σ)) := by
  unfold zRows_read_b10 Rows_read_b10
  refine zr_gg (zg_jin rfl hx1) (fun g1 => ?_)
  exact zr_of (zRows_read_b17_r N j0 _ (hσ.2 j0 _) _ hσ) (congr (congrArg (Rows_read_b17 N j0) (zo_get (j := j0) rfl rfl hx1)) rfl)
def zRows_read_b4 (N : Nat) (j0 : Nat) (x1 : Int) (σ : z_S) : Option (Int × z_S) := if j0 < nAC then if ((lenC j0 : Nat) : Int) ≤ x1 then zRows_read_b16 N j0 σ else zRows_read_b10 N j0 x1 σ else none
theorem zRows_read_b4_r (N : Nat) (j0 : Nat) (x1 : Int) (hx1 : zin x1) (σ : z_S) (hσ : zR σ) : zrel (zRows_read_b4 N j0 x1 σ) (Rows_read_b4 N j0 (zI x1) (zo σ)) := by
  unfold zRows_read_b4 Rows_read_b4
  refine zr_gg zg_j (fun g1 => ?_)
  refine zr_ite (zI_le (zI_len (n := lenC j0)) rfl (zin_nat (lenC_lt j0)) hx1) ?_ ?_
  · exact zr_of (zRows_read_b16_r N j0  _ hσ) (congrArg (Rows_read_b16 N j0) rfl)
  · exact zr_of (zRows_read_b10_r N j0 _ hx1 _ hσ) (congr (congrArg (Rows_read_b10 N j0) rfl) rfl)
def zRows_read_b0 (N : Nat) (j0 : Nat) (x1 : Int) (σ : z_S) : Option (Int × z_S) := if x1 < 0 then zRows_read_b16 N j0 σ else zRows_read_b4 N j0 x1 σ
theorem zRows_read_b0_r (N : Nat) (j0 : Nat) (x1 : Int) (hx1 : zin x1) (σ : z_S) (hσ : zR σ) : zrel (zRows_read_b0 N j0 x1 σ) (Rows_read_b0 N j0 (zI x1) (zo σ)) := by
  unfold zRows_read_b0 Rows_read_b0
  refine zr_ite (zI_lt rfl (zl_0) hx1 (by decide)) ?_ ?_
  · exact zr_of (zRows_read_b16_r N j0  _ hσ) (congrArg (Rows_read_b16 N j0) rfl)
  · exact zr_of (zRows_read_b4_r N j0 _ hx1 _ hσ) (congr (congrArg (Rows_read_b4 N j0) rfl) rfl)
def zRows_read (N : Nat) (j0 : Nat) (x1 : Int) (σ : z_S) : Option (Int × z_S) := zRows_read_b0 N j0 x1 σ
theorem zRows_read_r (N : Nat) (j0 : Nat) (x1 : Int) (hx1 : zin x1) (σ : z_S) (hσ : zR σ) : zrel (zRows_read N j0 x1 σ) (Rows_read N j0 (zI x1) (zo σ)) := by
  unfold zRows_read Rows_read
  exact zr_of (zRows_read_b0_r N j0 _ hx1 _ hσ) (congr (congrArg (Rows_read_b0 N j0) rfl) rfl)
def zRows_write_b14 (N : Nat) (j0 : Nat) (σ : z_S) : Option (Int × z_S) := some (0, σ)
theorem zRows_write_b14_r (N : Nat) (j0 : Nat) (σ : z_S) (hσ : zR σ) : zrel (zRows_write_b14 N j0 σ) (Rows_write_b14 N j0 (zo σ)) := by
  unfold zRows_write_b14 Rows_write_b14
  exact zr_some (zl_0) (by decide) rfl hσ
def zRows_write_b10 (N : Nat) (j0 : Nat) (x1 : Int) (x2 : Int) (σ : z_S) : Option (Int × z_S) := if j0 < nAC ∧ zIn x1 (lenC j0) then zRows_write_b14 N j0 (zA σ j0 (x1).toNat x2) else none
theorem zRows_write_b10_r (N : Nat) (j0 : Nat) (x1 : Int) (hx1 : zin x1) (x2 : Int) (hx2 : zin x2) (σ : z_S) (hσ : zR σ) : zrel (zRows_write_b10 N j0 x1 x2 σ) (Rows_write_b10 N j0 (zI x1) (zI x2) (zo σ)) := by
  unfold zRows_write_b10 Rows_write_b10
  refine zr_gg (zg_jin rfl hx1) (fun g1 => ?_)
  exact zr_of (zRows_write_b14_r N j0  _ (zR_A (a := j0) (i := _) hσ hx2)) (congrArg (Rows_write_b14 N j0) (zo_A (a := j0) rfl rfl hx1 rfl))
def zRows_write_b4 (N : Nat) (j0 : Nat) (x1 : Int) (x2 : Int) (σ : z_S) : Option (Int × z_S) := if j0 < nAC then if ((lenC j0 : Nat) : Int) ≤ x1 then zRows_write_b14 N j0 σ else zRows_write_b10 N j0 x1 x2 σ else none
theorem zRows_write_b4_r (N : Nat) (j0 : Nat) (x1 : Int) (hx1 : zin x1) (x2 : Int) (hx2 : zin x2) (σ : z_S) (hσ : zR σ) : zrel (zRows_write_b4 N j0 x1 x2 σ) (Rows_write_b4 N j0 (zI x1) (zI x2) (zo σ)) := by
  unfold zRows_write_b4 Rows_write_b4
  refine zr_gg zg_j (fun g1 => ?_)
  refine zr_ite (zI_le (zI_len (n := lenC j0)) rfl (zin_nat (lenC_lt j0)) hx1) ?_ ?_
  · exact zr_of (zRows_write_b14_r N j0  _ hσ) (congrArg (Rows_write_b14 N j0) rfl)
  · exact zr_of (zRows_write_b10_r N j0 _ hx1 _ hx2 _ hσ) (congr (congr (congrArg (Rows_write_b10 N j0) rfl) rfl) rfl)
def zRows_write_b0 (N : Nat) (j0 : Nat) (x1 : Int) (x2 : Int) (σ : z_S) : Option (Int × z_S) := if x1 < 0 then zRows_write_b14 N j0 σ else zRows_write_b4 N j0 x1 x2 σ
theorem zRows_write_b0_r (N : Nat) (j0 : Nat) (x1 : Int) (hx1 : zin x1) (x2 : Int) (hx2 : zin x2) (σ : z_S) (hσ : zR σ) : zrel (zRows_write_b0 N j0 x1 x2 σ) (Rows_write_b0 N j0 (zI x1) (zI x2) (zo σ)) := by
  unfold zRows_write_b0 Rows_write_b0
  refine zr_ite (zI_lt rfl (zl_0) hx1 (by decide)) ?_ ?_
  · exact zr_of (zRows_write_b14_r N j0  _ hσ) (congrArg (Rows_write_b14 N j0) rfl)
  · exact zr_of (zRows_write_b4_r N j0 _ hx1 _ hx2 _ hσ) (congr (congr (congrArg (Rows_write_b4 N j0) rfl) rfl) rfl)
def zRows_write (N : Nat) (j0 : Nat) (x1 : Int) (x2 : Int) (σ : z_S) : Option (Int × z_S) := zRows_write_b0 N j0 x1 x2 σ
theorem zRows_write_r (N : Nat) (j0 : Nat) (x1 : Int) (hx1 : zin x1) (x2 : Int) (hx2 : zin x2) (σ : z_S) (hσ : zR σ) : zrel (zRows_write N j0 x1 x2 σ) (Rows_write N j0 (zI x1) (zI x2) (zo σ)) := by
  unfold zRows_write Rows_write
  exact zr_of (zRows_write_b0_r N j0 _ hx1 _ hx2 _ hσ) (congr (congr (congrArg (Rows_write_b0 N j0) rfl) rfl) rfl)
def zMachine_takeText_b26 (N : Nat) (j1 : Nat) (x2 : Int) (σ : z_S) : Option (Int × z_S) := some (0, (zF σ 26 x2))
theorem zMachine_takeText_b26_r (N : Nat) (j1 : Nat) (x2 : Int) (hx2 : zin x2) (σ : z_S) (hσ : zR σ) : zrel (zMachine_takeText_b26 N j1 x2 σ) (Machine_takeText_b26 N j1 (zI x2) (zo σ)) := by
  unfold zMachine_takeText_b26 Machine_takeText_b26
  exact zr_some (zl_0) (by decide) (zo_F (k := 26) rfl rfl) (zR_F (k := 26) hσ hx2)
def zMachine_takeText_b7 (N : Nat) (j1 : Nat) (k2 : Int → Int → z_S → Option (Int × z_S)) (x2 : Int) (x3 : Int) (σ : z_S) : Option (Int × z_S) := (zRows_read N j1 x3 σ).bind fun q14 => (zRows_write N 17 x3 q14.1 q14.2).bind fun q17 => if zin (x3 + 1) then k2 x2 (x3 + 1) q17.2 else none
theorem zMachine_takeText_b7_r (N : Nat) (j1 : Nat) (k2 : Int → Int → z_S → Option (Int × z_S)) (k2' : Int32 → Int32 → g_S → Option (Int32 × g_S)) (hk2 : ∀ (y0 : Int) (_ : zin y0) (y1 : Int) (_ : zin y1) (σ : z_S), zR σ → zrel (k2 y0 y1 σ) (k2' (zI y0) (zI y1) (zo σ))) (x2 : Int) (hx2 : zin x2) (x3 : Int) (hx3 : zin x3) (σ : z_S) (hσ : zR σ) : zrel (zMachine_takeText_b7 N j1 k2 x2 x3 σ) (Machine_takeText_b7 N j1 k2' (zI x2) (zI x3) (zo σ)) := by
  unfold zMachine_takeText_b7 Machine_takeText_b7
  refine zr_bind (zr_of (zRows_read_r N j1 _ hx3 _ hσ) (congr (congrArg (Rows_read N j1) rfl) rfl)) (fun r14 s14σ hr14 hs14 => ?_)
  dsimp only
  refine zr_bind (zr_of (zRows_write_r N 17 _ hx3 _ hr14 _ hs14) (congr (congr (congrArg (Rows_write N 17) rfl) rfl) rfl)) (fun r17 s17σ hr17 hs17 => ?_)
  dsimp only
  refine zr_g (fun g1 => ?_)
  exact zr_of (hk2 _ hx2 _ g1 _ hs17) (congr (congr (congrArg (k2') rfl) (zI_add rfl (zl_1))) rfl)
def zMachine_takeText_b2 (N : Nat) (j1 : Nat) (k2 : Int → Int → z_S → Option (Int × z_S)) (x2 : Int) (x3 : Int) (σ : z_S) : Option (Int × z_S) := if x2 ≤ x3 then zMachine_takeText_b26 N j1 x2 σ else zMachine_takeText_b7 N j1 k2 x2 x3 σ
theorem zMachine_takeText_b2_r (N : Nat) (j1 : Nat) (k2 : Int → Int → z_S → Option (Int × z_S)) (k2' : Int32 → Int32 → g_S → Option (Int32 × g_S)) (hk2 : ∀ (y0 : Int) (_ : zin y0) (y1 : Int) (_ : zin y1) (σ : z_S), zR σ → zrel (k2 y0 y1 σ) (k2' (zI y0) (zI y1) (zo σ))) (x2 : Int) (hx2 : zin x2) (x3 : Int) (hx3 : zin x3) (σ : z_S) (hσ : zR σ) : zrel (zMachine_takeText_b2 N j1 k2 x2 x3 σ) (Machine_takeText_b2 N j1 k2' (zI x2) (zI x3) (zo σ)) := by
  unfold zMachine_takeText_b2 Machine_takeText_b2
  refine zr_ite (zI_le rfl rfl hx2 hx3) ?_ ?_
  · exact zr_of (zMachine_takeText_b26_r N j1 _ hx2 _ hσ) (congr (congrArg (Machine_takeText_b26 N j1) rfl) rfl)
  · exact zr_of (zMachine_takeText_b7_r N j1 k2 k2' hk2 _ hx2 _ hx3 _ hσ) (congr (congr (congrArg (Machine_takeText_b7 N j1 k2') rfl) rfl) rfl)
def zMachine_takeText_l2 (N : Nat) (j1 : Nat) : Nat → Int → Int → z_S → Option (Int × z_S)
  | 0 => fun _ _ _ => none
  | n + 1 => fun x2 x3 σ => zMachine_takeText_b2 N j1 (zMachine_takeText_l2 N j1 n) x2 x3 σ
theorem zMachine_takeText_l2_r (N : Nat) (j1 : Nat) (n : Nat) : ∀ (x2 : Int) (hx2 : zin x2) (x3 : Int) (hx3 : zin x3) (σ : z_S) (_ : zR σ), zrel (zMachine_takeText_l2 N j1 n x2 x3 σ) (Machine_takeText_l2 N j1 n (zI x2) (zI x3) (zo σ)) := by
  induction n with
  | zero => intro x2 hx2 x3 hx3 σ hσ r s h; cases h
  | succ n ih => intro x2 hx2 x3 hx3 σ hσ; exact zMachine_takeText_b2_r N j1 _ _ (fun x2 hx2 x3 hx3 σ hσ => ih x2 hx2 x3 hx3 σ hσ) x2 hx2 x3 hx3 σ hσ
def zMachine_takeText_b0 (N : Nat) (j1 : Nat) (x2 : Int) (σ : z_S) : Option (Int × z_S) := zMachine_takeText_l2 N j1 N x2 0 σ
theorem zMachine_takeText_b0_r (N : Nat) (j1 : Nat) (x2 : Int) (hx2 : zin x2) (σ : z_S) (hσ : zR σ) : zrel (zMachine_takeText_b0 N j1 x2 σ) (Machine_takeText_b0 N j1 (zI x2) (zo σ)) := by
  unfold zMachine_takeText_b0 Machine_takeText_b0
  exact zr_of (zMachine_takeText_l2_r N j1 N _ hx2 _ (by decide) _ hσ) (congr (congr (congrArg (Machine_takeText_l2 N j1 N) rfl) (zl_0)) rfl)
def zMachine_takeText (N : Nat) (j1 : Nat) (x2 : Int) (σ : z_S) : Option (Int × z_S) := zMachine_takeText_b0 N j1 x2 σ
theorem zMachine_takeText_r (N : Nat) (j1 : Nat) (x2 : Int) (hx2 : zin x2) (σ : z_S) (hσ : zR σ) : zrel (zMachine_takeText N j1 x2 σ) (Machine_takeText N j1 (zI x2) (zo σ)) := by
  unfold zMachine_takeText Machine_takeText
  exact zr_of (zMachine_takeText_b0_r N j1 _ hx2 _ hσ) (congr (congrArg (Machine_takeText_b0 N j1) rfl) rfl)
def zDesk_text_b0 (N : Nat) (σ : z_S) : Option (Int × z_S) := (zMachine_takeText N 0 (σ.1 0) (zF (zF σ 0 0) 3 0)).bind fun q24 => some ((σ.1 0), q24.2)
theorem zDesk_text_b0_r (N : Nat) (σ : z_S) (hσ : zR σ) : zrel (zDesk_text_b0 N σ) (Desk_text_b0 N (zo σ)) := by
  unfold zDesk_text_b0 Desk_text_b0
  refine zr_bind (zr_of (zMachine_takeText_r N 0 _ (hσ.1 0) _ (zR_F (k := 3) (zR_F (k := 0) hσ (by decide)) (by decide))) (congr (congrArg (Machine_takeText N 0) (zo_fld rfl 0)) (zo_F (k := 3) (zo_F (k := 0) rfl (zl_0)) (zl_0)))) (fun r24 s24σ hr24 hs24 => ?_)
  dsimp only
  exact zr_some (zo_fld rfl 0) (hσ.1 0) rfl hs24
def zDesk_text (N : Nat) (σ : z_S) : Option (Int × z_S) := zDesk_text_b0 N σ
theorem zDesk_text_r (N : Nat) (σ : z_S) (hσ : zR σ) : zrel (zDesk_text N σ) (Desk_text N (zo σ)) := by
  unfold zDesk_text Desk_text
  exact zr_of (zDesk_text_b0_r N  _ hσ) (congrArg (Desk_text_b0 N) rfl)
def zDesk_steps_b0 (N : Nat) (σ : z_S) : Option (Int × z_S) := some ((σ.1 27), σ)
theorem zDesk_steps_b0_r (N : Nat) (σ : z_S) (hσ : zR σ) : zrel (zDesk_steps_b0 N σ) (Desk_steps_b0 N (zo σ)) := by
  unfold zDesk_steps_b0 Desk_steps_b0
  exact zr_some (zo_fld rfl 27) (hσ.1 27) rfl hσ
def zDesk_steps (N : Nat) (σ : z_S) : Option (Int × z_S) := zDesk_steps_b0 N σ
theorem zDesk_steps_r (N : Nat) (σ : z_S) (hσ : zR σ) : zrel (zDesk_steps N σ) (Desk_steps N (zo σ)) := by
  unfold zDesk_steps Desk_steps
  exact zr_of (zDesk_steps_b0_r N  _ hσ) (congrArg (Desk_steps_b0 N) rfl)
def zDesk_settled_b11 (N : Nat) (x1 : Int) (s1 : Int) (σ : z_S) : Option (Int × z_S) := if zB s1 then some (x1, (zF σ 3 s1)) else none
theorem zDesk_settled_b11_r (N : Nat) (x1 : Int) (hx1 : zin x1) (s1 : Int) (hs1 : zin s1) (σ : z_S) (hσ : zR σ) : zrel (zDesk_settled_b11 N x1 s1 σ) (Desk_settled_b11 N (zI x1) (zI s1) (zo σ)) := by
  unfold zDesk_settled_b11 Desk_settled_b11
  refine zr_gg (zg_B rfl) (fun g1 => ?_)
  exact zr_some rfl hx1 (zo_F (k := 3) rfl rfl) (zR_F (k := 3) hσ hs1)
def zDesk_settled_b10 (N : Nat) (x1 : Int) (σ : z_S) : Option (Int × z_S) := zDesk_settled_b11 N x1 0 σ
theorem zDesk_settled_b10_r (N : Nat) (x1 : Int) (hx1 : zin x1) (σ : z_S) (hσ : zR σ) : zrel (zDesk_settled_b10 N x1 σ) (Desk_settled_b10 N (zI x1) (zo σ)) := by
  unfold zDesk_settled_b10 Desk_settled_b10
  exact zr_of (zDesk_settled_b11_r N _ hx1 _ (by decide) _ hσ) (congr (congr (congrArg (Desk_settled_b11 N) rfl) (zl_0)) rfl)
def zDesk_settled_b6 (N : Nat) (x1 : Int) (σ : z_S) : Option (Int × z_S) := zDesk_settled_b11 N x1 1 σ
theorem zDesk_settled_b6_r (N : Nat) (x1 : Int) (hx1 : zin x1) (σ : z_S) (hσ : zR σ) : zrel (zDesk_settled_b6 N x1 σ) (Desk_settled_b6 N (zI x1) (zo σ)) := by
  unfold zDesk_settled_b6 Desk_settled_b6
  exact zr_of (zDesk_settled_b11_r N _ hx1 _ (by decide) _ hσ) (congr (congr (congrArg (Desk_settled_b11 N) rfl) (zl_1)) rfl)
def zDesk_settled_b0 (N : Nat) (x1 : Int) (σ : z_S) : Option (Int × z_S) := if x1 = 1 then zDesk_settled_b6 N x1 σ else zDesk_settled_b10 N x1 σ
theorem zDesk_settled_b0_r (N : Nat) (x1 : Int) (hx1 : zin x1) (σ : z_S) (hσ : zR σ) : zrel (zDesk_settled_b0 N x1 σ) (Desk_settled_b0 N (zI x1) (zo σ)) := by
  unfold zDesk_settled_b0 Desk_settled_b0
  refine zr_ite (zI_eq rfl (zl_1) hx1 (by decide)) ?_ ?_
  · exact zr_of (zDesk_settled_b6_r N _ hx1 _ hσ) (congr (congrArg (Desk_settled_b6 N) rfl) rfl)
  · exact zr_of (zDesk_settled_b10_r N _ hx1 _ hσ) (congr (congrArg (Desk_settled_b10 N) rfl) rfl)
def zDesk_settled (N : Nat) (x1 : Int) (σ : z_S) : Option (Int × z_S) := zDesk_settled_b0 N x1 σ
theorem zDesk_settled_r (N : Nat) (x1 : Int) (hx1 : zin x1) (σ : z_S) (hσ : zR σ) : zrel (zDesk_settled N x1 σ) (Desk_settled N (zI x1) (zo σ)) := by
  unfold zDesk_settled Desk_settled
  exact zr_of (zDesk_settled_b0_r N _ hx1 _ hσ) (congr (congrArg (Desk_settled_b0 N) rfl) rfl)
def zUnits_isDigit_b17 (N : Nat) (s0 : Int) (σ : z_S) : Option (Int × z_S) := if zB s0 then some (s0, σ) else none
theorem zUnits_isDigit_b17_r (N : Nat) (s0 : Int) (hs0 : zin s0) (σ : z_S) (hσ : zR σ) : zrel (zUnits_isDigit_b17 N s0 σ) (Units_isDigit_b17 N (zI s0) (zo σ)) := by
  unfold zUnits_isDigit_b17 Units_isDigit_b17
  refine zr_gg (zg_B rfl) (fun g1 => ?_)
  exact zr_some rfl hs0 rfl hσ
def zUnits_isDigit_b16 (N : Nat) (σ : z_S) : Option (Int × z_S) := zUnits_isDigit_b17 N 0 σ
theorem zUnits_isDigit_b16_r (N : Nat) (σ : z_S) (hσ : zR σ) : zrel (zUnits_isDigit_b16 N σ) (Units_isDigit_b16 N (zo σ)) := by
  unfold zUnits_isDigit_b16 Units_isDigit_b16
  exact zr_of (zUnits_isDigit_b17_r N _ (by decide) _ hσ) (congr (congrArg (Units_isDigit_b17 N) (zl_0)) rfl)
def zUnits_isDigit_b12 (N : Nat) (σ : z_S) : Option (Int × z_S) := zUnits_isDigit_b17 N 1 σ
theorem zUnits_isDigit_b12_r (N : Nat) (σ : z_S) (hσ : zR σ) : zrel (zUnits_isDigit_b12 N σ) (Units_isDigit_b12 N (zo σ)) := by
  unfold zUnits_isDigit_b12 Units_isDigit_b12
  exact zr_of (zUnits_isDigit_b17_r N _ (by decide) _ hσ) (congr (congrArg (Units_isDigit_b17 N) (zl_1)) rfl)
def zUnits_isDigit_b6 (N : Nat) (x0 : Int) (σ : z_S) : Option (Int × z_S) := if (57 : Int) < x0 then zUnits_isDigit_b16 N σ else zUnits_isDigit_b12 N σ
theorem zUnits_isDigit_b6_r (N : Nat) (x0 : Int) (hx0 : zin x0) (σ : z_S) (hσ : zR σ) : zrel (zUnits_isDigit_b6 N x0 σ) (Units_isDigit_b6 N (zI x0) (zo σ)) := by
  unfold zUnits_isDigit_b6 Units_isDigit_b6
  refine zr_ite (zI_lt (zl_57) rfl (by decide) hx0) ?_ ?_
  · exact zr_of (zUnits_isDigit_b16_r N  _ hσ) (congrArg (Units_isDigit_b16 N) rfl)
  · exact zr_of (zUnits_isDigit_b12_r N  _ hσ) (congrArg (Units_isDigit_b12 N) rfl)
def zUnits_isDigit_b0 (N : Nat) (x0 : Int) (σ : z_S) : Option (Int × z_S) := if x0 < 48 then zUnits_isDigit_b16 N σ else zUnits_isDigit_b6 N x0 σ
theorem zUnits_isDigit_b0_r (N : Nat) (x0 : Int) (hx0 : zin x0) (σ : z_S) (hσ : zR σ) : zrel (zUnits_isDigit_b0 N x0 σ) (Units_isDigit_b0 N (zI x0) (zo σ)) := by
  unfold zUnits_isDigit_b0 Units_isDigit_b0
  refine zr_ite (zI_lt rfl (zl_48) hx0 (by decide)) ?_ ?_
  · exact zr_of (zUnits_isDigit_b16_r N  _ hσ) (congrArg (Units_isDigit_b16 N) rfl)
  · exact zr_of (zUnits_isDigit_b6_r N _ hx0 _ hσ) (congr (congrArg (Units_isDigit_b6 N) rfl) rfl)
def zUnits_isDigit (N : Nat) (x0 : Int) (σ : z_S) : Option (Int × z_S) := zUnits_isDigit_b0 N x0 σ
theorem zUnits_isDigit_r (N : Nat) (x0 : Int) (hx0 : zin x0) (σ : z_S) (hσ : zR σ) : zrel (zUnits_isDigit N x0 σ) (Units_isDigit N (zI x0) (zo σ)) := by
  unfold zUnits_isDigit Units_isDigit
  exact zr_of (zUnits_isDigit_b0_r N _ hx0 _ hσ) (congr (congrArg (Units_isDigit_b0 N) rfl) rfl)
def zUnits_isLetter_b29 (N : Nat) (s0 : Int) (σ : z_S) : Option (Int × z_S) := if zB s0 then some (s0, σ) else none
theorem zUnits_isLetter_b29_r (N : Nat) (s0 : Int) (hs0 : zin s0) (σ : z_S) (hσ : zR σ) : zrel (zUnits_isLetter_b29 N s0 σ) (Units_isLetter_b29 N (zI s0) (zo σ)) := by
  unfold zUnits_isLetter_b29 Units_isLetter_b29
  refine zr_gg (zg_B rfl) (fun g1 => ?_)
  exact zr_some rfl hs0 rfl hσ
def zUnits_isLetter_b28 (N : Nat) (σ : z_S) : Option (Int × z_S) := zUnits_isLetter_b29 N 0 σ
theorem zUnits_isLetter_b28_r (N : Nat) (σ : z_S) (hσ : zR σ) : zrel (zUnits_isLetter_b28 N σ) (Units_isLetter_b28 N (zo σ)) := by
  unfold zUnits_isLetter_b28 Units_isLetter_b28
  exact zr_of (zUnits_isLetter_b29_r N _ (by decide) _ hσ) (congr (congrArg (Units_isLetter_b29 N) (zl_0)) rfl)
def zUnits_isLetter_b24 (N : Nat) (σ : z_S) : Option (Int × z_S) := zUnits_isLetter_b29 N 1 σ
theorem zUnits_isLetter_b24_r (N : Nat) (σ : z_S) (hσ : zR σ) : zrel (zUnits_isLetter_b24 N σ) (Units_isLetter_b24 N (zo σ)) := by
  unfold zUnits_isLetter_b24 Units_isLetter_b24
  exact zr_of (zUnits_isLetter_b29_r N _ (by decide) _ hσ) (congr (congrArg (Units_isLetter_b29 N) (zl_1)) rfl)
def zUnits_isLetter_b18 (N : Nat) (x0 : Int) (σ : z_S) : Option (Int × z_S) := if (122 : Int) < x0 then zUnits_isLetter_b28 N σ else zUnits_isLetter_b24 N σ
theorem zUnits_isLetter_b18_r (N : Nat) (x0 : Int) (hx0 : zin x0) (σ : z_S) (hσ : zR σ) : zrel (zUnits_isLetter_b18 N x0 σ) (Units_isLetter_b18 N (zI x0) (zo σ)) := by
  unfold zUnits_isLetter_b18 Units_isLetter_b18
  refine zr_ite (zI_lt (zl_122) rfl (by decide) hx0) ?_ ?_
  · exact zr_of (zUnits_isLetter_b28_r N  _ hσ) (congrArg (Units_isLetter_b28 N) rfl)
  · exact zr_of (zUnits_isLetter_b24_r N  _ hσ) (congrArg (Units_isLetter_b24 N) rfl)
def zUnits_isLetter_b12 (N : Nat) (x0 : Int) (σ : z_S) : Option (Int × z_S) := if x0 < 97 then zUnits_isLetter_b28 N σ else zUnits_isLetter_b18 N x0 σ
theorem zUnits_isLetter_b12_r (N : Nat) (x0 : Int) (hx0 : zin x0) (σ : z_S) (hσ : zR σ) : zrel (zUnits_isLetter_b12 N x0 σ) (Units_isLetter_b12 N (zI x0) (zo σ)) := by
  unfold zUnits_isLetter_b12 Units_isLetter_b12
  refine zr_ite (zI_lt rfl (zl_97) hx0 (by decide)) ?_ ?_
  · exact zr_of (zUnits_isLetter_b28_r N  _ hσ) (congrArg (Units_isLetter_b28 N) rfl)
  · exact zr_of (zUnits_isLetter_b18_r N _ hx0 _ hσ) (congr (congrArg (Units_isLetter_b18 N) rfl) rfl)
def zUnits_isLetter_b6 (N : Nat) (x0 : Int) (σ : z_S) : Option (Int × z_S) := if x0 ≤ 90 then zUnits_isLetter_b24 N σ else zUnits_isLetter_b12 N x0 σ
theorem zUnits_isLetter_b6_r (N : Nat) (x0 : Int) (hx0 : zin x0) (σ : z_S) (hσ : zR σ) : zrel (zUnits_isLetter_b6 N x0 σ) (Units_isLetter_b6 N (zI x0) (zo σ)) := by
  unfold zUnits_isLetter_b6 Units_isLetter_b6
  refine zr_ite (zI_le rfl (zl_90) hx0 (by decide)) ?_ ?_
  · exact zr_of (zUnits_isLetter_b24_r N  _ hσ) (congrArg (Units_isLetter_b24 N) rfl)
  · exact zr_of (zUnits_isLetter_b12_r N _ hx0 _ hσ) (congr (congrArg (Units_isLetter_b12 N) rfl) rfl)
def zUnits_isLetter_b0 (N : Nat) (x0 : Int) (σ : z_S) : Option (Int × z_S) := if x0 < 65 then zUnits_isLetter_b12 N x0 σ else zUnits_isLetter_b6 N x0 σ
theorem zUnits_isLetter_b0_r (N : Nat) (x0 : Int) (hx0 : zin x0) (σ : z_S) (hσ : zR σ) : zrel (zUnits_isLetter_b0 N x0 σ) (Units_isLetter_b0 N (zI x0) (zo σ)) := by
  unfold zUnits_isLetter_b0 Units_isLetter_b0
  refine zr_ite (zI_lt rfl (zl_65) hx0 (by decide)) ?_ ?_
  · exact zr_of (zUnits_isLetter_b12_r N _ hx0 _ hσ) (congr (congrArg (Units_isLetter_b12 N) rfl) rfl)
  · exact zr_of (zUnits_isLetter_b6_r N _ hx0 _ hσ) (congr (congrArg (Units_isLetter_b6 N) rfl) rfl)
def zUnits_isLetter (N : Nat) (x0 : Int) (σ : z_S) : Option (Int × z_S) := zUnits_isLetter_b0 N x0 σ
theorem zUnits_isLetter_r (N : Nat) (x0 : Int) (hx0 : zin x0) (σ : z_S) (hσ : zR σ) : zrel (zUnits_isLetter N x0 σ) (Units_isLetter N (zI x0) (zo σ)) := by
  unfold zUnits_isLetter Units_isLetter
  exact zr_of (zUnits_isLetter_b0_r N _ hx0 _ hσ) (congr (congrArg (Units_isLetter_b0 N) rfl) rfl)
def zUnits_isWord_b25 (N : Nat) (s0 : Int) (σ : z_S) : Option (Int × z_S) := if zB s0 then some (s0, σ) else none
theorem zUnits_isWord_b25_r (N : Nat) (s0 : Int) (hs0 : zin s0) (σ : z_S) (hσ : zR σ) : zrel (zUnits_isWord_b25 N s0 σ) (Units_isWord_b25 N (zI s0) (zo σ)) := by
  unfold zUnits_isWord_b25 Units_isWord_b25
  refine zr_gg (zg_B rfl) (fun g1 => ?_)
  exact zr_some rfl hs0 rfl hσ
def zUnits_isWord_b20 (N : Nat) (σ : z_S) : Option (Int × z_S) := zUnits_isWord_b25 N 1 σ
theorem zUnits_isWord_b20_r (N : Nat) (σ : z_S) (hσ : zR σ) : zrel (zUnits_isWord_b20 N σ) (Units_isWord_b20 N (zo σ)) := by
  unfold zUnits_isWord_b20 Units_isWord_b20
  exact zr_of (zUnits_isWord_b25_r N _ (by decide) _ hσ) (congr (congrArg (Units_isWord_b25 N) (zl_1)) rfl)
def zUnits_isWord_b24 (N : Nat) (σ : z_S) : Option (Int × z_S) := zUnits_isWord_b25 N 0 σ
theorem zUnits_isWord_b24_r (N : Nat) (σ : z_S) (hσ : zR σ) : zrel (zUnits_isWord_b24 N σ) (Units_isWord_b24 N (zo σ)) := by
  unfold zUnits_isWord_b24 Units_isWord_b24
  exact zr_of (zUnits_isWord_b25_r N _ (by decide) _ hσ) (congr (congrArg (Units_isWord_b25 N) (zl_0)) rfl)
def zUnits_isWord_b14 (N : Nat) (x0 : Int) (σ : z_S) : Option (Int × z_S) := if x0 = 95 then zUnits_isWord_b20 N σ else zUnits_isWord_b24 N σ
theorem zUnits_isWord_b14_r (N : Nat) (x0 : Int) (hx0 : zin x0) (σ : z_S) (hσ : zR σ) : zrel (zUnits_isWord_b14 N x0 σ) (Units_isWord_b14 N (zI x0) (zo σ)) := by
  unfold zUnits_isWord_b14 Units_isWord_b14
  refine zr_ite (zI_eq rfl (zl_95) hx0 (by decide)) ?_ ?_
  · exact zr_of (zUnits_isWord_b20_r N  _ hσ) (congrArg (Units_isWord_b20 N) rfl)
  · exact zr_of (zUnits_isWord_b24_r N  _ hσ) (congrArg (Units_isWord_b24 N) rfl)
def zUnits_isWord_b7 (N : Nat) (x0 : Int) (σ : z_S) : Option (Int × z_S) := (zUnits_isDigit N x0 σ).bind fun q8 => if q8.1 = 0 then zUnits_isWord_b14 N x0 q8.2 else zUnits_isWord_b20 N q8.2
theorem zUnits_isWord_b7_r (N : Nat) (x0 : Int) (hx0 : zin x0) (σ : z_S) (hσ : zR σ) : zrel (zUnits_isWord_b7 N x0 σ) (Units_isWord_b7 N (zI x0) (zo σ)) := by
  unfold zUnits_isWord_b7 Units_isWord_b7
  refine zr_bind (zr_of (zUnits_isDigit_r N _ hx0 _ hσ) (congr (congrArg (Units_isDigit N) rfl) rfl)) (fun r8 s8σ hr8 hs8 => ?_)
  dsimp only
  refine zr_ite (zI_eq rfl (zl_0) hr8 (by decide)) ?_ ?_
  · exact zr_of (zUnits_isWord_b14_r N _ hx0 _ hs8) (congr (congrArg (Units_isWord_b14 N) rfl) rfl)
  · exact zr_of (zUnits_isWord_b20_r N  _ hs8) (congrArg (Units_isWord_b20 N) rfl)
def zUnits_isWord_b0 (N : Nat) (x0 : Int) (σ : z_S) : Option (Int × z_S) := (zUnits_isLetter N x0 σ).bind fun q1 => if q1.1 = 0 then zUnits_isWord_b7 N x0 q1.2 else zUnits_isWord_b20 N q1.2
theorem zUnits_isWord_b0_r (N : Nat) (x0 : Int) (hx0 : zin x0) (σ : z_S) (hσ : zR σ) : zrel (zUnits_isWord_b0 N x0 σ) (Units_isWord_b0 N (zI x0) (zo σ)) := by
  unfold zUnits_isWord_b0 Units_isWord_b0
  refine zr_bind (zr_of (zUnits_isLetter_r N _ hx0 _ hσ) (congr (congrArg (Units_isLetter N) rfl) rfl)) (fun r1 s1σ hr1 hs1 => ?_)
  dsimp only
  refine zr_ite (zI_eq rfl (zl_0) hr1 (by decide)) ?_ ?_
  · exact zr_of (zUnits_isWord_b7_r N _ hx0 _ hs1) (congr (congrArg (Units_isWord_b7 N) rfl) rfl)
  · exact zr_of (zUnits_isWord_b20_r N  _ hs1) (congrArg (Units_isWord_b20 N) rfl)
def zUnits_isWord (N : Nat) (x0 : Int) (σ : z_S) : Option (Int × z_S) := zUnits_isWord_b0 N x0 σ
theorem zUnits_isWord_r (N : Nat) (x0 : Int) (hx0 : zin x0) (σ : z_S) (hσ : zR σ) : zrel (zUnits_isWord N x0 σ) (Units_isWord N (zI x0) (zo σ)) := by
  unfold zUnits_isWord Units_isWord
  exact zr_of (zUnits_isWord_b0_r N _ hx0 _ hσ) (congr (congrArg (Units_isWord_b0 N) rfl) rfl)
def zUnits_isLineEnd_b31 (N : Nat) (s0 : Int) (σ : z_S) : Option (Int × z_S) := if zB s0 then some (s0, σ) else none
theorem zUnits_isLineEnd_b31_r (N : Nat) (s0 : Int) (hs0 : zin s0) (σ : z_S) (hσ : zR σ) : zrel (zUnits_isLineEnd_b31 N s0 σ) (Units_isLineEnd_b31 N (zI s0) (zo σ)) := by
  unfold zUnits_isLineEnd_b31 Units_isLineEnd_b31
  refine zr_gg (zg_B rfl) (fun g1 => ?_)
  exact zr_some rfl hs0 rfl hσ
def zUnits_isLineEnd_b26 (N : Nat) (σ : z_S) : Option (Int × z_S) := zUnits_isLineEnd_b31 N 1 σ
theorem zUnits_isLineEnd_b26_r (N : Nat) (σ : z_S) (hσ : zR σ) : zrel (zUnits_isLineEnd_b26 N σ) (Units_isLineEnd_b26 N (zo σ)) := by
  unfold zUnits_isLineEnd_b26 Units_isLineEnd_b26
  exact zr_of (zUnits_isLineEnd_b31_r N _ (by decide) _ hσ) (congr (congrArg (Units_isLineEnd_b31 N) (zl_1)) rfl)
def zUnits_isLineEnd_b30 (N : Nat) (σ : z_S) : Option (Int × z_S) := zUnits_isLineEnd_b31 N 0 σ
theorem zUnits_isLineEnd_b30_r (N : Nat) (σ : z_S) (hσ : zR σ) : zrel (zUnits_isLineEnd_b30 N σ) (Units_isLineEnd_b30 N (zo σ)) := by
  unfold zUnits_isLineEnd_b30 Units_isLineEnd_b30
  exact zr_of (zUnits_isLineEnd_b31_r N _ (by decide) _ hσ) (congr (congrArg (Units_isLineEnd_b31 N) (zl_0)) rfl)
def zUnits_isLineEnd_b19 (N : Nat) (x0 : Int) (σ : z_S) : Option (Int × z_S) := if x0 = 8233 then zUnits_isLineEnd_b26 N σ else zUnits_isLineEnd_b30 N σ
theorem zUnits_isLineEnd_b19_r (N : Nat) (x0 : Int) (hx0 : zin x0) (σ : z_S) (hσ : zR σ) : zrel (zUnits_isLineEnd_b19 N x0 σ) (Units_isLineEnd_b19 N (zI x0) (zo σ)) := by
  unfold zUnits_isLineEnd_b19 Units_isLineEnd_b19
  refine zr_ite (zI_eq rfl (zl_8233) hx0 (by decide)) ?_ ?_
  · exact zr_of (zUnits_isLineEnd_b26_r N  _ hσ) (congrArg (Units_isLineEnd_b26 N) rfl)
  · exact zr_of (zUnits_isLineEnd_b30_r N  _ hσ) (congrArg (Units_isLineEnd_b30 N) rfl)
def zUnits_isLineEnd_b12 (N : Nat) (x0 : Int) (σ : z_S) : Option (Int × z_S) := if x0 = 8232 then zUnits_isLineEnd_b26 N σ else zUnits_isLineEnd_b19 N x0 σ
theorem zUnits_isLineEnd_b12_r (N : Nat) (x0 : Int) (hx0 : zin x0) (σ : z_S) (hσ : zR σ) : zrel (zUnits_isLineEnd_b12 N x0 σ) (Units_isLineEnd_b12 N (zI x0) (zo σ)) := by
  unfold zUnits_isLineEnd_b12 Units_isLineEnd_b12
  refine zr_ite (zI_eq rfl (zl_8232) hx0 (by decide)) ?_ ?_
  · exact zr_of (zUnits_isLineEnd_b26_r N  _ hσ) (congrArg (Units_isLineEnd_b26 N) rfl)
  · exact zr_of (zUnits_isLineEnd_b19_r N _ hx0 _ hσ) (congr (congrArg (Units_isLineEnd_b19 N) rfl) rfl)
def zUnits_isLineEnd_b6 (N : Nat) (x0 : Int) (σ : z_S) : Option (Int × z_S) := if x0 = 13 then zUnits_isLineEnd_b26 N σ else zUnits_isLineEnd_b12 N x0 σ
theorem zUnits_isLineEnd_b6_r (N : Nat) (x0 : Int) (hx0 : zin x0) (σ : z_S) (hσ : zR σ) : zrel (zUnits_isLineEnd_b6 N x0 σ) (Units_isLineEnd_b6 N (zI x0) (zo σ)) := by
  unfold zUnits_isLineEnd_b6 Units_isLineEnd_b6
  refine zr_ite (zI_eq rfl (zl_13) hx0 (by decide)) ?_ ?_
  · exact zr_of (zUnits_isLineEnd_b26_r N  _ hσ) (congrArg (Units_isLineEnd_b26 N) rfl)
  · exact zr_of (zUnits_isLineEnd_b12_r N _ hx0 _ hσ) (congr (congrArg (Units_isLineEnd_b12 N) rfl) rfl)
def zUnits_isLineEnd_b0 (N : Nat) (x0 : Int) (σ : z_S) : Option (Int × z_S) := if x0 = 10 then zUnits_isLineEnd_b26 N σ else zUnits_isLineEnd_b6 N x0 σ
theorem zUnits_isLineEnd_b0_r (N : Nat) (x0 : Int) (hx0 : zin x0) (σ : z_S) (hσ : zR σ) : zrel (zUnits_isLineEnd_b0 N x0 σ) (Units_isLineEnd_b0 N (zI x0) (zo σ)) := by
  unfold zUnits_isLineEnd_b0 Units_isLineEnd_b0
  refine zr_ite (zI_eq rfl (zl_10) hx0 (by decide)) ?_ ?_
  · exact zr_of (zUnits_isLineEnd_b26_r N  _ hσ) (congrArg (Units_isLineEnd_b26 N) rfl)
  · exact zr_of (zUnits_isLineEnd_b6_r N _ hx0 _ hσ) (congr (congrArg (Units_isLineEnd_b6 N) rfl) rfl)
def zUnits_isLineEnd (N : Nat) (x0 : Int) (σ : z_S) : Option (Int × z_S) := zUnits_isLineEnd_b0 N x0 σ
theorem zUnits_isLineEnd_r (N : Nat) (x0 : Int) (hx0 : zin x0) (σ : z_S) (hσ : zR σ) : zrel (zUnits_isLineEnd N x0 σ) (Units_isLineEnd N (zI x0) (zo σ)) := by
  unfold zUnits_isLineEnd Units_isLineEnd
  exact zr_of (zUnits_isLineEnd_b0_r N _ hx0 _ hσ) (congr (congrArg (Units_isLineEnd_b0 N) rfl) rfl)
def zUnits_isBlank_b100 (N : Nat) (σ : z_S) : Option (Int × z_S) := some (1, σ)
theorem zUnits_isBlank_b100_r (N : Nat) (σ : z_S) (hσ : zR σ) : zrel (zUnits_isBlank_b100 N σ) (Units_isBlank_b100 N (zo σ)) := by
  unfold zUnits_isBlank_b100 Units_isBlank_b100
  exact zr_some (zl_1) (by decide) rfl hσ
def zUnits_isBlank_b121 (N : Nat) (s0 : Int) (σ : z_S) : Option (Int × z_S) := if zB s0 then some (s0, σ) else none
theorem zUnits_isBlank_b121_r (N : Nat) (s0 : Int) (hs0 : zin s0) (σ : z_S) (hσ : zR σ) : zrel (zUnits_isBlank_b121 N s0 σ) (Units_isBlank_b121 N (zI s0) (zo σ)) := by
  unfold zUnits_isBlank_b121 Units_isBlank_b121
  refine zr_gg (zg_B rfl) (fun g1 => ?_)
  exact zr_some rfl hs0 rfl hσ
def zUnits_isBlank_b120 (N : Nat) (σ : z_S) : Option (Int × z_S) := zUnits_isBlank_b121 N 0 σ
theorem zUnits_isBlank_b120_r (N : Nat) (σ : z_S) (hσ : zR σ) : zrel (zUnits_isBlank_b120 N σ) (Units_isBlank_b120 N (zo σ)) := by
  unfold zUnits_isBlank_b120 Units_isBlank_b120
  exact zr_of (zUnits_isBlank_b121_r N _ (by decide) _ hσ) (congr (congrArg (Units_isBlank_b121 N) (zl_0)) rfl)
def zUnits_isBlank_b116 (N : Nat) (σ : z_S) : Option (Int × z_S) := zUnits_isBlank_b121 N 1 σ
theorem zUnits_isBlank_b116_r (N : Nat) (σ : z_S) (hσ : zR σ) : zrel (zUnits_isBlank_b116 N σ) (Units_isBlank_b116 N (zo σ)) := by
  unfold zUnits_isBlank_b116 Units_isBlank_b116
  exact zr_of (zUnits_isBlank_b121_r N _ (by decide) _ hσ) (congr (congrArg (Units_isBlank_b121 N) (zl_1)) rfl)
def zUnits_isBlank_b109 (N : Nat) (x0 : Int) (σ : z_S) : Option (Int × z_S) := if (8202 : Int) < x0 then zUnits_isBlank_b120 N σ else zUnits_isBlank_b116 N σ
theorem zUnits_isBlank_b109_r (N : Nat) (x0 : Int) (hx0 : zin x0) (σ : z_S) (hσ : zR σ) : zrel (zUnits_isBlank_b109 N x0 σ) (Units_isBlank_b109 N (zI x0) (zo σ)) := by
  unfold zUnits_isBlank_b109 Units_isBlank_b109
  refine zr_ite (zI_lt (zl_8202) rfl (by decide) hx0) ?_ ?_
  · exact zr_of (zUnits_isBlank_b120_r N  _ hσ) (congrArg (Units_isBlank_b120 N) rfl)
  · exact zr_of (zUnits_isBlank_b116_r N  _ hσ) (congrArg (Units_isBlank_b116 N) rfl)
def zUnits_isBlank_b102 (N : Nat) (x0 : Int) (σ : z_S) : Option (Int × z_S) := if x0 < 8192 then zUnits_isBlank_b120 N σ else zUnits_isBlank_b109 N x0 σ
theorem zUnits_isBlank_b102_r (N : Nat) (x0 : Int) (hx0 : zin x0) (σ : z_S) (hσ : zR σ) : zrel (zUnits_isBlank_b102 N x0 σ) (Units_isBlank_b102 N (zI x0) (zo σ)) := by
  unfold zUnits_isBlank_b102 Units_isBlank_b102
  refine zr_ite (zI_lt rfl (zl_8192) hx0 (by decide)) ?_ ?_
  · exact zr_of (zUnits_isBlank_b120_r N  _ hσ) (congrArg (Units_isBlank_b120 N) rfl)
  · exact zr_of (zUnits_isBlank_b109_r N _ hx0 _ hσ) (congr (congrArg (Units_isBlank_b109 N) rfl) rfl)
def zUnits_isBlank_b0 (N : Nat) (x0 : Int) (σ : z_S) : Option (Int × z_S) := if x0 = 9 then zUnits_isBlank_b100 N σ else if x0 = 11 then zUnits_isBlank_b100 N σ else if x0 = 12 then zUnits_isBlank_b100 N σ else if x0 = 32 then zUnits_isBlank_b100 N σ else if x0 = 160 then zUnits_isBlank_b100 N σ else if x0 = 5760 then zUnits_isBlank_b100 N σ else if x0 = 6158 then zUnits_isBlank_b100 N σ else if x0 = 8239 then zUnits_isBlank_b100 N σ else if x0 = 8287 then zUnits_isBlank_b100 N σ else if x0 = 12288 then zUnits_isBlank_b100 N σ else if x0 = 65279 then zUnits_isBlank_b100 N σ else zUnits_isBlank_b102 N x0 σ
theorem zUnits_isBlank_b0_r (N : Nat) (x0 : Int) (hx0 : zin x0) (σ : z_S) (hσ : zR σ) : zrel (zUnits_isBlank_b0 N x0 σ) (Units_isBlank_b0 N (zI x0) (zo σ)) := by
  unfold zUnits_isBlank_b0 Units_isBlank_b0
  refine zr_ite (zI_eq rfl (zl_9) hx0 (by decide)) ?_ ?_
  · exact zr_of (zUnits_isBlank_b100_r N  _ hσ) (congrArg (Units_isBlank_b100 N) rfl)
  · refine zr_ite (zI_eq rfl (zl_11) hx0 (by decide)) ?_ ?_
    · exact zr_of (zUnits_isBlank_b100_r N  _ hσ) (congrArg (Units_isBlank_b100 N) rfl)
    · refine zr_ite (zI_eq rfl (zl_12) hx0 (by decide)) ?_ ?_
      · exact zr_of (zUnits_isBlank_b100_r N  _ hσ) (congrArg (Units_isBlank_b100 N) rfl)
      · refine zr_ite (zI_eq rfl (zl_32) hx0 (by decide)) ?_ ?_
        · exact zr_of (zUnits_isBlank_b100_r N  _ hσ) (congrArg (Units_isBlank_b100 N) rfl)
        · refine zr_ite (zI_eq rfl (zl_160) hx0 (by decide)) ?_ ?_
          · exact zr_of (zUnits_isBlank_b100_r N  _ hσ) (congrArg (Units_isBlank_b100 N) rfl)
          · refine zr_ite (zI_eq rfl (zl_5760) hx0 (by decide)) ?_ ?_
            · exact zr_of (zUnits_isBlank_b100_r N  _ hσ) (congrArg (Units_isBlank_b100 N) rfl)
            · refine zr_ite (zI_eq rfl (zl_6158) hx0 (by decide)) ?_ ?_
              · exact zr_of (zUnits_isBlank_b100_r N  _ hσ) (congrArg (Units_isBlank_b100 N) rfl)
              · refine zr_ite (zI_eq rfl (zl_8239) hx0 (by decide)) ?_ ?_
                · exact zr_of (zUnits_isBlank_b100_r N  _ hσ) (congrArg (Units_isBlank_b100 N) rfl)
                · refine zr_ite (zI_eq rfl (zl_8287) hx0 (by decide)) ?_ ?_
                  · exact zr_of (zUnits_isBlank_b100_r N  _ hσ) (congrArg (Units_isBlank_b100 N) rfl)
                  · refine zr_ite (zI_eq rfl (zl_12288) hx0 (by decide)) ?_ ?_
                    · exact zr_of (zUnits_isBlank_b100_r N  _ hσ) (congrArg (Units_isBlank_b100 N) rfl)
                    · refine zr_ite (zI_eq rfl (zl_65279) hx0 (by decide)) ?_ ?_
                      · exact zr_of (zUnits_isBlank_b100_r N  _ hσ) (congrArg (Units_isBlank_b100 N) rfl)
                      · exact zr_of (zUnits_isBlank_b102_r N _ hx0 _ hσ) (congr (congrArg (Units_isBlank_b102 N) rfl) rfl)
def zUnits_isBlank (N : Nat) (x0 : Int) (σ : z_S) : Option (Int × z_S) := zUnits_isBlank_b0 N x0 σ
theorem zUnits_isBlank_r (N : Nat) (x0 : Int) (hx0 : zin x0) (σ : z_S) (hσ : zR σ) : zrel (zUnits_isBlank N x0 σ) (Units_isBlank N (zI x0) (zo σ)) := by
  unfold zUnits_isBlank Units_isBlank
  exact zr_of (zUnits_isBlank_b0_r N _ hx0 _ hσ) (congr (congrArg (Units_isBlank_b0 N) rfl) rfl)
def zUnits_isNamePart_b52 (N : Nat) (σ : z_S) : Option (Int × z_S) := some (1, σ)
theorem zUnits_isNamePart_b52_r (N : Nat) (σ : z_S) (hσ : zR σ) : zrel (zUnits_isNamePart_b52 N σ) (Units_isNamePart_b52 N (zo σ)) := by
  unfold zUnits_isNamePart_b52 Units_isNamePart_b52
  exact zr_some (zl_1) (by decide) rfl hσ
def zUnits_isNamePart_b101 (N : Nat) (s0 : Int) (σ : z_S) : Option (Int × z_S) := if zB s0 then some (s0, σ) else none
theorem zUnits_isNamePart_b101_r (N : Nat) (s0 : Int) (hs0 : zin s0) (σ : z_S) (hσ : zR σ) : zrel (zUnits_isNamePart_b101 N s0 σ) (Units_isNamePart_b101 N (zI s0) (zo σ)) := by
  unfold zUnits_isNamePart_b101 Units_isNamePart_b101
  refine zr_gg (zg_B rfl) (fun g1 => ?_)
  exact zr_some rfl hs0 rfl hσ
def zUnits_isNamePart_b96 (N : Nat) (σ : z_S) : Option (Int × z_S) := zUnits_isNamePart_b101 N 1 σ
theorem zUnits_isNamePart_b96_r (N : Nat) (σ : z_S) (hσ : zR σ) : zrel (zUnits_isNamePart_b96 N σ) (Units_isNamePart_b96 N (zo σ)) := by
  unfold zUnits_isNamePart_b96 Units_isNamePart_b96
  exact zr_of (zUnits_isNamePart_b101_r N _ (by decide) _ hσ) (congr (congrArg (Units_isNamePart_b101 N) (zl_1)) rfl)
def zUnits_isNamePart_b100 (N : Nat) (σ : z_S) : Option (Int × z_S) := zUnits_isNamePart_b101 N 0 σ
theorem zUnits_isNamePart_b100_r (N : Nat) (σ : z_S) (hσ : zR σ) : zrel (zUnits_isNamePart_b100 N σ) (Units_isNamePart_b100 N (zo σ)) := by
  unfold zUnits_isNamePart_b100 Units_isNamePart_b100
  exact zr_of (zUnits_isNamePart_b101_r N _ (by decide) _ hσ) (congr (congrArg (Units_isNamePart_b101 N) (zl_0)) rfl)
def zUnits_isNamePart_b89 (N : Nat) (x0 : Int) (σ : z_S) : Option (Int × z_S) := if x0 = 247 then zUnits_isNamePart_b100 N σ else zUnits_isNamePart_b96 N σ
theorem zUnits_isNamePart_b89_r (N : Nat) (x0 : Int) (hx0 : zin x0) (σ : z_S) (hσ : zR σ) : zrel (zUnits_isNamePart_b89 N x0 σ) (Units_isNamePart_b89 N (zI x0) (zo σ)) := by
  unfold zUnits_isNamePart_b89 Units_isNamePart_b89
  refine zr_ite (zI_eq rfl (zl_247) hx0 (by decide)) ?_ ?_
  · exact zr_of (zUnits_isNamePart_b100_r N  _ hσ) (congrArg (Units_isNamePart_b100 N) rfl)
  · exact zr_of (zUnits_isNamePart_b96_r N  _ hσ) (congrArg (Units_isNamePart_b96 N) rfl)
def zUnits_isNamePart_b82 (N : Nat) (x0 : Int) (σ : z_S) : Option (Int × z_S) := if x0 = 215 then zUnits_isNamePart_b100 N σ else zUnits_isNamePart_b89 N x0 σ
theorem zUnits_isNamePart_b82_r (N : Nat) (x0 : Int) (hx0 : zin x0) (σ : z_S) (hσ : zR σ) : zrel (zUnits_isNamePart_b82 N x0 σ) (Units_isNamePart_b82 N (zI x0) (zo σ)) := by
  unfold zUnits_isNamePart_b82 Units_isNamePart_b82
  refine zr_ite (zI_eq rfl (zl_215) hx0 (by decide)) ?_ ?_
  · exact zr_of (zUnits_isNamePart_b100_r N  _ hσ) (congrArg (Units_isNamePart_b100 N) rfl)
  · exact zr_of (zUnits_isNamePart_b89_r N _ hx0 _ hσ) (congr (congrArg (Units_isNamePart_b89 N) rfl) rfl)
def zUnits_isNamePart_b75 (N : Nat) (x0 : Int) (σ : z_S) : Option (Int × z_S) := if (255 : Int) < x0 then zUnits_isNamePart_b100 N σ else zUnits_isNamePart_b82 N x0 σ
theorem zUnits_isNamePart_b75_r (N : Nat) (x0 : Int) (hx0 : zin x0) (σ : z_S) (hσ : zR σ) : zrel (zUnits_isNamePart_b75 N x0 σ) (Units_isNamePart_b75 N (zI x0) (zo σ)) := by
  unfold zUnits_isNamePart_b75 Units_isNamePart_b75
  refine zr_ite (zI_lt (zl_255) rfl (by decide) hx0) ?_ ?_
  · exact zr_of (zUnits_isNamePart_b100_r N  _ hσ) (congrArg (Units_isNamePart_b100 N) rfl)
  · exact zr_of (zUnits_isNamePart_b82_r N _ hx0 _ hσ) (congr (congrArg (Units_isNamePart_b82 N) rfl) rfl)
def zUnits_isNamePart_b68 (N : Nat) (x0 : Int) (σ : z_S) : Option (Int × z_S) := if x0 < 192 then zUnits_isNamePart_b100 N σ else zUnits_isNamePart_b75 N x0 σ
theorem zUnits_isNamePart_b68_r (N : Nat) (x0 : Int) (hx0 : zin x0) (σ : z_S) (hσ : zR σ) : zrel (zUnits_isNamePart_b68 N x0 σ) (Units_isNamePart_b68 N (zI x0) (zo σ)) := by
  unfold zUnits_isNamePart_b68 Units_isNamePart_b68
  refine zr_ite (zI_lt rfl (zl_192) hx0 (by decide)) ?_ ?_
  · exact zr_of (zUnits_isNamePart_b100_r N  _ hσ) (congrArg (Units_isNamePart_b100 N) rfl)
  · exact zr_of (zUnits_isNamePart_b75_r N _ hx0 _ hσ) (congr (congrArg (Units_isNamePart_b75 N) rfl) rfl)
def zUnits_isNamePart_b61 (N : Nat) (x0 : Int) (σ : z_S) : Option (Int × z_S) := (zUnits_isDigit N x0 σ).bind fun q62 => if q62.1 = 0 then zUnits_isNamePart_b68 N x0 q62.2 else zUnits_isNamePart_b96 N q62.2
theorem zUnits_isNamePart_b61_r (N : Nat) (x0 : Int) (hx0 : zin x0) (σ : z_S) (hσ : zR σ) : zrel (zUnits_isNamePart_b61 N x0 σ) (Units_isNamePart_b61 N (zI x0) (zo σ)) := by
  unfold zUnits_isNamePart_b61 Units_isNamePart_b61
  refine zr_bind (zr_of (zUnits_isDigit_r N _ hx0 _ hσ) (congr (congrArg (Units_isDigit N) rfl) rfl)) (fun r62 s62σ hr62 hs62 => ?_)
  dsimp only
  refine zr_ite (zI_eq rfl (zl_0) hr62 (by decide)) ?_ ?_
  · exact zr_of (zUnits_isNamePart_b68_r N _ hx0 _ hs62) (congr (congrArg (Units_isNamePart_b68 N) rfl) rfl)
  · exact zr_of (zUnits_isNamePart_b96_r N  _ hs62) (congrArg (Units_isNamePart_b96 N) rfl)
def zUnits_isNamePart_b54 (N : Nat) (x0 : Int) (σ : z_S) : Option (Int × z_S) := (zUnits_isLetter N x0 σ).bind fun q55 => if q55.1 = 0 then zUnits_isNamePart_b61 N x0 q55.2 else zUnits_isNamePart_b96 N q55.2
theorem zUnits_isNamePart_b54_r (N : Nat) (x0 : Int) (hx0 : zin x0) (σ : z_S) (hσ : zR σ) : zrel (zUnits_isNamePart_b54 N x0 σ) (Units_isNamePart_b54 N (zI x0) (zo σ)) := by
  unfold zUnits_isNamePart_b54 Units_isNamePart_b54
  refine zr_bind (zr_of (zUnits_isLetter_r N _ hx0 _ hσ) (congr (congrArg (Units_isLetter N) rfl) rfl)) (fun r55 s55σ hr55 hs55 => ?_)
  dsimp only
  refine zr_ite (zI_eq rfl (zl_0) hr55 (by decide)) ?_ ?_
  · exact zr_of (zUnits_isNamePart_b61_r N _ hx0 _ hs55) (congr (congrArg (Units_isNamePart_b61 N) rfl) rfl)
  · exact zr_of (zUnits_isNamePart_b96_r N  _ hs55) (congrArg (Units_isNamePart_b96 N) rfl)
def zUnits_isNamePart_b0 (N : Nat) (x0 : Int) (σ : z_S) : Option (Int × z_S) := if x0 = 36 then zUnits_isNamePart_b52 N σ else if x0 = 95 then zUnits_isNamePart_b52 N σ else if x0 = 170 then zUnits_isNamePart_b52 N σ else if x0 = 181 then zUnits_isNamePart_b52 N σ else if x0 = 186 then zUnits_isNamePart_b52 N σ else zUnits_isNamePart_b54 N x0 σ
theorem zUnits_isNamePart_b0_r (N : Nat) (x0 : Int) (hx0 : zin x0) (σ : z_S) (hσ : zR σ) : zrel (zUnits_isNamePart_b0 N x0 σ) (Units_isNamePart_b0 N (zI x0) (zo σ)) := by
  unfold zUnits_isNamePart_b0 Units_isNamePart_b0
  refine zr_ite (zI_eq rfl (zl_36) hx0 (by decide)) ?_ ?_
  · exact zr_of (zUnits_isNamePart_b52_r N  _ hσ) (congrArg (Units_isNamePart_b52 N) rfl)
  · refine zr_ite (zI_eq rfl (zl_95) hx0 (by decide)) ?_ ?_
    · exact zr_of (zUnits_isNamePart_b52_r N  _ hσ) (congrArg (Units_isNamePart_b52 N) rfl)
    · refine zr_ite (zI_eq rfl (zl_170) hx0 (by decide)) ?_ ?_
      · exact zr_of (zUnits_isNamePart_b52_r N  _ hσ) (congrArg (Units_isNamePart_b52 N) rfl)
      · refine zr_ite (zI_eq rfl (zl_181) hx0 (by decide)) ?_ ?_
        · exact zr_of (zUnits_isNamePart_b52_r N  _ hσ) (congrArg (Units_isNamePart_b52 N) rfl)
        · refine zr_ite (zI_eq rfl (zl_186) hx0 (by decide)) ?_ ?_
          · exact zr_of (zUnits_isNamePart_b52_r N  _ hσ) (congrArg (Units_isNamePart_b52 N) rfl)
          · exact zr_of (zUnits_isNamePart_b54_r N _ hx0 _ hσ) (congr (congrArg (Units_isNamePart_b54 N) rfl) rfl)
def zUnits_isNamePart (N : Nat) (x0 : Int) (σ : z_S) : Option (Int × z_S) := zUnits_isNamePart_b0 N x0 σ
theorem zUnits_isNamePart_r (N : Nat) (x0 : Int) (hx0 : zin x0) (σ : z_S) (hσ : zR σ) : zrel (zUnits_isNamePart N x0 σ) (Units_isNamePart N (zI x0) (zo σ)) := by
  unfold zUnits_isNamePart Units_isNamePart
  exact zr_of (zUnits_isNamePart_b0_r N _ hx0 _ hσ) (congr (congrArg (Units_isNamePart_b0 N) rfl) rfl)
def zUnits_inSet_b73 (N : Nat) (s0 : Int) (σ : z_S) : Option (Int × z_S) := if zB s0 then some (s0, σ) else none
theorem zUnits_inSet_b73_r (N : Nat) (s0 : Int) (hs0 : zin s0) (σ : z_S) (hσ : zR σ) : zrel (zUnits_inSet_b73 N s0 σ) (Units_inSet_b73 N (zI s0) (zo σ)) := by
  unfold zUnits_inSet_b73 Units_inSet_b73
  refine zr_gg (zg_B rfl) (fun g1 => ?_)
  exact zr_some rfl hs0 rfl hσ
def zUnits_inSet_b72 (N : Nat) (σ : z_S) : Option (Int × z_S) := zUnits_inSet_b73 N 0 σ
theorem zUnits_inSet_b72_r (N : Nat) (σ : z_S) (hσ : zR σ) : zrel (zUnits_inSet_b72 N σ) (Units_inSet_b72 N (zo σ)) := by
  unfold zUnits_inSet_b72 Units_inSet_b72
  exact zr_of (zUnits_inSet_b73_r N _ (by decide) _ hσ) (congr (congrArg (Units_inSet_b73 N) (zl_0)) rfl)
def zUnits_inSet_b68 (N : Nat) (σ : z_S) : Option (Int × z_S) := zUnits_inSet_b73 N 1 σ
theorem zUnits_inSet_b68_r (N : Nat) (σ : z_S) (hσ : zR σ) : zrel (zUnits_inSet_b68 N σ) (Units_inSet_b68 N (zo σ)) := by
  unfold zUnits_inSet_b68 Units_inSet_b68
  exact zr_of (zUnits_inSet_b73_r N _ (by decide) _ hσ) (congr (congrArg (Units_inSet_b73 N) (zl_1)) rfl)
def zUnits_inSet_b61 (N : Nat) (x1 : Int) (σ : z_S) : Option (Int × z_S) := (zUnits_isDigit N x1 σ).bind fun q62 => if q62.1 = 0 then zUnits_inSet_b68 N q62.2 else zUnits_inSet_b72 N q62.2
theorem zUnits_inSet_b61_r (N : Nat) (x1 : Int) (hx1 : zin x1) (σ : z_S) (hσ : zR σ) : zrel (zUnits_inSet_b61 N x1 σ) (Units_inSet_b61 N (zI x1) (zo σ)) := by
  unfold zUnits_inSet_b61 Units_inSet_b61
  refine zr_bind (zr_of (zUnits_isDigit_r N _ hx1 _ hσ) (congr (congrArg (Units_isDigit N) rfl) rfl)) (fun r62 s62σ hr62 hs62 => ?_)
  dsimp only
  refine zr_ite (zI_eq rfl (zl_0) hr62 (by decide)) ?_ ?_
  · exact zr_of (zUnits_inSet_b68_r N  _ hs62) (congrArg (Units_inSet_b68 N) rfl)
  · exact zr_of (zUnits_inSet_b72_r N  _ hs62) (congrArg (Units_inSet_b72 N) rfl)
def zUnits_inSet_b113 (N : Nat) (s0 : Int) (σ : z_S) : Option (Int × z_S) := if zB s0 then some (s0, σ) else none
theorem zUnits_inSet_b113_r (N : Nat) (s0 : Int) (hs0 : zin s0) (σ : z_S) (hσ : zR σ) : zrel (zUnits_inSet_b113 N s0 σ) (Units_inSet_b113 N (zI s0) (zo σ)) := by
  unfold zUnits_inSet_b113 Units_inSet_b113
  refine zr_gg (zg_B rfl) (fun g1 => ?_)
  exact zr_some rfl hs0 rfl hσ
def zUnits_inSet_b112 (N : Nat) (σ : z_S) : Option (Int × z_S) := zUnits_inSet_b113 N 0 σ
theorem zUnits_inSet_b112_r (N : Nat) (σ : z_S) (hσ : zR σ) : zrel (zUnits_inSet_b112 N σ) (Units_inSet_b112 N (zo σ)) := by
  unfold zUnits_inSet_b112 Units_inSet_b112
  exact zr_of (zUnits_inSet_b113_r N _ (by decide) _ hσ) (congr (congrArg (Units_inSet_b113 N) (zl_0)) rfl)
def zUnits_inSet_b108 (N : Nat) (σ : z_S) : Option (Int × z_S) := zUnits_inSet_b113 N 1 σ
theorem zUnits_inSet_b108_r (N : Nat) (σ : z_S) (hσ : zR σ) : zrel (zUnits_inSet_b108 N σ) (Units_inSet_b108 N (zo σ)) := by
  unfold zUnits_inSet_b108 Units_inSet_b108
  exact zr_of (zUnits_inSet_b113_r N _ (by decide) _ hσ) (congr (congrArg (Units_inSet_b113 N) (zl_1)) rfl)
def zUnits_inSet_b101 (N : Nat) (x1 : Int) (σ : z_S) : Option (Int × z_S) := (zUnits_isLineEnd N x1 σ).bind fun q102 => if q102.1 = 0 then zUnits_inSet_b108 N q102.2 else zUnits_inSet_b112 N q102.2
theorem zUnits_inSet_b101_r (N : Nat) (x1 : Int) (hx1 : zin x1) (σ : z_S) (hσ : zR σ) : zrel (zUnits_inSet_b101 N x1 σ) (Units_inSet_b101 N (zI x1) (zo σ)) := by
  unfold zUnits_inSet_b101 Units_inSet_b101
  refine zr_bind (zr_of (zUnits_isLineEnd_r N _ hx1 _ hσ) (congr (congrArg (Units_isLineEnd N) rfl) rfl)) (fun r102 s102σ hr102 hs102 => ?_)
  dsimp only
  refine zr_ite (zI_eq rfl (zl_0) hr102 (by decide)) ?_ ?_
  · exact zr_of (zUnits_inSet_b108_r N  _ hs102) (congrArg (Units_inSet_b108 N) rfl)
  · exact zr_of (zUnits_inSet_b112_r N  _ hs102) (congrArg (Units_inSet_b112 N) rfl)
def zUnits_inSet_b94 (N : Nat) (x1 : Int) (σ : z_S) : Option (Int × z_S) := (zUnits_isBlank N x1 σ).bind fun q95 => if q95.1 = 0 then zUnits_inSet_b101 N x1 q95.2 else zUnits_inSet_b112 N q95.2
theorem zUnits_inSet_b94_r (N : Nat) (x1 : Int) (hx1 : zin x1) (σ : z_S) (hσ : zR σ) : zrel (zUnits_inSet_b94 N x1 σ) (Units_inSet_b94 N (zI x1) (zo σ)) := by
  unfold zUnits_inSet_b94 Units_inSet_b94
  refine zr_bind (zr_of (zUnits_isBlank_r N _ hx1 _ hσ) (congr (congrArg (Units_isBlank N) rfl) rfl)) (fun r95 s95σ hr95 hs95 => ?_)
  dsimp only
  refine zr_ite (zI_eq rfl (zl_0) hr95 (by decide)) ?_ ?_
  · exact zr_of (zUnits_inSet_b101_r N _ hx1 _ hs95) (congr (congrArg (Units_inSet_b101 N) rfl) rfl)
  · exact zr_of (zUnits_inSet_b112_r N  _ hs95) (congrArg (Units_inSet_b112 N) rfl)
def zUnits_inSet_b56 (N : Nat) (x1 : Int) (σ : z_S) : Option (Int × z_S) := (zUnits_isDigit N x1 σ).bind fun q57 => if zB q57.1 then some (q57.1, q57.2) else none
theorem zUnits_inSet_b56_r (N : Nat) (x1 : Int) (hx1 : zin x1) (σ : z_S) (hσ : zR σ) : zrel (zUnits_inSet_b56 N x1 σ) (Units_inSet_b56 N (zI x1) (zo σ)) := by
  unfold zUnits_inSet_b56 Units_inSet_b56
  refine zr_bind (zr_of (zUnits_isDigit_r N _ hx1 _ hσ) (congr (congrArg (Units_isDigit N) rfl) rfl)) (fun r57 s57σ hr57 hs57 => ?_)
  dsimp only
  refine zr_gg (zg_B rfl) (fun g1 => ?_)
  exact zr_some rfl hr57 rfl hs57
def zUnits_inSet_b93 (N : Nat) (s0 : Int) (σ : z_S) : Option (Int × z_S) := if zB s0 then some (s0, σ) else none
theorem zUnits_inSet_b93_r (N : Nat) (s0 : Int) (hs0 : zin s0) (σ : z_S) (hσ : zR σ) : zrel (zUnits_inSet_b93 N s0 σ) (Units_inSet_b93 N (zI s0) (zo σ)) := by
  unfold zUnits_inSet_b93 Units_inSet_b93
  refine zr_gg (zg_B rfl) (fun g1 => ?_)
  exact zr_some rfl hs0 rfl hσ
def zUnits_inSet_b88 (N : Nat) (σ : z_S) : Option (Int × z_S) := zUnits_inSet_b93 N 1 σ
theorem zUnits_inSet_b88_r (N : Nat) (σ : z_S) (hσ : zR σ) : zrel (zUnits_inSet_b88 N σ) (Units_inSet_b88 N (zo σ)) := by
  unfold zUnits_inSet_b88 Units_inSet_b88
  exact zr_of (zUnits_inSet_b93_r N _ (by decide) _ hσ) (congr (congrArg (Units_inSet_b93 N) (zl_1)) rfl)
def zUnits_inSet_b92 (N : Nat) (σ : z_S) : Option (Int × z_S) := zUnits_inSet_b93 N 0 σ
theorem zUnits_inSet_b92_r (N : Nat) (σ : z_S) (hσ : zR σ) : zrel (zUnits_inSet_b92 N σ) (Units_inSet_b92 N (zo σ)) := by
  unfold zUnits_inSet_b92 Units_inSet_b92
  exact zr_of (zUnits_inSet_b93_r N _ (by decide) _ hσ) (congr (congrArg (Units_inSet_b93 N) (zl_0)) rfl)
def zUnits_inSet_b81 (N : Nat) (x1 : Int) (σ : z_S) : Option (Int × z_S) := (zUnits_isLineEnd N x1 σ).bind fun q82 => if q82.1 = 0 then zUnits_inSet_b92 N q82.2 else zUnits_inSet_b88 N q82.2
theorem zUnits_inSet_b81_r (N : Nat) (x1 : Int) (hx1 : zin x1) (σ : z_S) (hσ : zR σ) : zrel (zUnits_inSet_b81 N x1 σ) (Units_inSet_b81 N (zI x1) (zo σ)) := by
  unfold zUnits_inSet_b81 Units_inSet_b81
  refine zr_bind (zr_of (zUnits_isLineEnd_r N _ hx1 _ hσ) (congr (congrArg (Units_isLineEnd N) rfl) rfl)) (fun r82 s82σ hr82 hs82 => ?_)
  dsimp only
  refine zr_ite (zI_eq rfl (zl_0) hr82 (by decide)) ?_ ?_
  · exact zr_of (zUnits_inSet_b92_r N  _ hs82) (congrArg (Units_inSet_b92 N) rfl)
  · exact zr_of (zUnits_inSet_b88_r N  _ hs82) (congrArg (Units_inSet_b88 N) rfl)
def zUnits_inSet_b74 (N : Nat) (x1 : Int) (σ : z_S) : Option (Int × z_S) := (zUnits_isBlank N x1 σ).bind fun q75 => if q75.1 = 0 then zUnits_inSet_b81 N x1 q75.2 else zUnits_inSet_b88 N q75.2
theorem zUnits_inSet_b74_r (N : Nat) (x1 : Int) (hx1 : zin x1) (σ : z_S) (hσ : zR σ) : zrel (zUnits_inSet_b74 N x1 σ) (Units_inSet_b74 N (zI x1) (zo σ)) := by
  unfold zUnits_inSet_b74 Units_inSet_b74
  refine zr_bind (zr_of (zUnits_isBlank_r N _ hx1 _ hσ) (congr (congrArg (Units_isBlank N) rfl) rfl)) (fun r75 s75σ hr75 hs75 => ?_)
  dsimp only
  refine zr_ite (zI_eq rfl (zl_0) hr75 (by decide)) ?_ ?_
  · exact zr_of (zUnits_inSet_b81_r N _ hx1 _ hs75) (congr (congrArg (Units_inSet_b81 N) rfl) rfl)
  · exact zr_of (zUnits_inSet_b88_r N  _ hs75) (congrArg (Units_inSet_b88 N) rfl)
def zUnits_inSet_b114 (N : Nat) (x1 : Int) (σ : z_S) : Option (Int × z_S) := (zUnits_isWord N x1 σ).bind fun q115 => if zB q115.1 then some (q115.1, q115.2) else none
theorem zUnits_inSet_b114_r (N : Nat) (x1 : Int) (hx1 : zin x1) (σ : z_S) (hσ : zR σ) : zrel (zUnits_inSet_b114 N x1 σ) (Units_inSet_b114 N (zI x1) (zo σ)) := by
  unfold zUnits_inSet_b114 Units_inSet_b114
  refine zr_bind (zr_of (zUnits_isWord_r N _ hx1 _ hσ) (congr (congrArg (Units_isWord N) rfl) rfl)) (fun r115 s115σ hr115 hs115 => ?_)
  dsimp only
  refine zr_gg (zg_B rfl) (fun g1 => ?_)
  exact zr_some rfl hr115 rfl hs115
def zUnits_inSet_b131 (N : Nat) (s0 : Int) (σ : z_S) : Option (Int × z_S) := if zB s0 then some (s0, σ) else none
theorem zUnits_inSet_b131_r (N : Nat) (s0 : Int) (hs0 : zin s0) (σ : z_S) (hσ : zR σ) : zrel (zUnits_inSet_b131 N s0 σ) (Units_inSet_b131 N (zI s0) (zo σ)) := by
  unfold zUnits_inSet_b131 Units_inSet_b131
  refine zr_gg (zg_B rfl) (fun g1 => ?_)
  exact zr_some rfl hs0 rfl hσ
def zUnits_inSet_b130 (N : Nat) (σ : z_S) : Option (Int × z_S) := zUnits_inSet_b131 N 0 σ
theorem zUnits_inSet_b130_r (N : Nat) (σ : z_S) (hσ : zR σ) : zrel (zUnits_inSet_b130 N σ) (Units_inSet_b130 N (zo σ)) := by
  unfold zUnits_inSet_b130 Units_inSet_b130
  exact zr_of (zUnits_inSet_b131_r N _ (by decide) _ hσ) (congr (congrArg (Units_inSet_b131 N) (zl_0)) rfl)
def zUnits_inSet_b126 (N : Nat) (σ : z_S) : Option (Int × z_S) := zUnits_inSet_b131 N 1 σ
theorem zUnits_inSet_b126_r (N : Nat) (σ : z_S) (hσ : zR σ) : zrel (zUnits_inSet_b126 N σ) (Units_inSet_b126 N (zo σ)) := by
  unfold zUnits_inSet_b126 Units_inSet_b126
  exact zr_of (zUnits_inSet_b131_r N _ (by decide) _ hσ) (congr (congrArg (Units_inSet_b131 N) (zl_1)) rfl)
def zUnits_inSet_b119 (N : Nat) (x1 : Int) (σ : z_S) : Option (Int × z_S) := (zUnits_isWord N x1 σ).bind fun q120 => if q120.1 = 0 then zUnits_inSet_b126 N q120.2 else zUnits_inSet_b130 N q120.2
theorem zUnits_inSet_b119_r (N : Nat) (x1 : Int) (hx1 : zin x1) (σ : z_S) (hσ : zR σ) : zrel (zUnits_inSet_b119 N x1 σ) (Units_inSet_b119 N (zI x1) (zo σ)) := by
  unfold zUnits_inSet_b119 Units_inSet_b119
  refine zr_bind (zr_of (zUnits_isWord_r N _ hx1 _ hσ) (congr (congrArg (Units_isWord N) rfl) rfl)) (fun r120 s120σ hr120 hs120 => ?_)
  dsimp only
  refine zr_ite (zI_eq rfl (zl_0) hr120 (by decide)) ?_ ?_
  · exact zr_of (zUnits_inSet_b126_r N  _ hs120) (congrArg (Units_inSet_b126 N) rfl)
  · exact zr_of (zUnits_inSet_b130_r N  _ hs120) (congrArg (Units_inSet_b130 N) rfl)
def zUnits_inSet_b0 (N : Nat) (x0 : Int) (x1 : Int) (σ : z_S) : Option (Int × z_S) := if zin (x0 - 65536) then if (x0 - 65536) = 68 then zUnits_inSet_b61 N x1 σ else if (x0 - 65536) = 83 then zUnits_inSet_b94 N x1 σ else if (x0 - 65536) = 100 then zUnits_inSet_b56 N x1 σ else if (x0 - 65536) = 115 then zUnits_inSet_b74 N x1 σ else if (x0 - 65536) = 119 then zUnits_inSet_b114 N x1 σ else zUnits_inSet_b119 N x1 σ else none
theorem zUnits_inSet_b0_r (N : Nat) (x0 : Int) (hx0 : zin x0) (x1 : Int) (hx1 : zin x1) (σ : z_S) (hσ : zR σ) : zrel (zUnits_inSet_b0 N x0 x1 σ) (Units_inSet_b0 N (zI x0) (zI x1) (zo σ)) := by
  unfold zUnits_inSet_b0 Units_inSet_b0
  refine zr_g (fun g1 => ?_)
  refine zr_ite (zI_eq (zI_sub rfl (zl_65536)) (zl_68) g1 (by decide)) ?_ ?_
  · exact zr_of (zUnits_inSet_b61_r N _ hx1 _ hσ) (congr (congrArg (Units_inSet_b61 N) rfl) rfl)
  · refine zr_ite (zI_eq (zI_sub rfl (zl_65536)) (zl_83) g1 (by decide)) ?_ ?_
    · exact zr_of (zUnits_inSet_b94_r N _ hx1 _ hσ) (congr (congrArg (Units_inSet_b94 N) rfl) rfl)
    · refine zr_ite (zI_eq (zI_sub rfl (zl_65536)) (zl_100) g1 (by decide)) ?_ ?_
      · exact zr_of (zUnits_inSet_b56_r N _ hx1 _ hσ) (congr (congrArg (Units_inSet_b56 N) rfl) rfl)
      · refine zr_ite (zI_eq (zI_sub rfl (zl_65536)) (zl_115) g1 (by decide)) ?_ ?_
        · exact zr_of (zUnits_inSet_b74_r N _ hx1 _ hσ) (congr (congrArg (Units_inSet_b74 N) rfl) rfl)
        · refine zr_ite (zI_eq (zI_sub rfl (zl_65536)) (zl_119) g1 (by decide)) ?_ ?_
          · exact zr_of (zUnits_inSet_b114_r N _ hx1 _ hσ) (congr (congrArg (Units_inSet_b114 N) rfl) rfl)
          · exact zr_of (zUnits_inSet_b119_r N _ hx1 _ hσ) (congr (congrArg (Units_inSet_b119 N) rfl) rfl)
def zUnits_inSet (N : Nat) (x0 : Int) (x1 : Int) (σ : z_S) : Option (Int × z_S) := zUnits_inSet_b0 N x0 x1 σ
theorem zUnits_inSet_r (N : Nat) (x0 : Int) (hx0 : zin x0) (x1 : Int) (hx1 : zin x1) (σ : z_S) (hσ : zR σ) : zrel (zUnits_inSet N x0 x1 σ) (Units_inSet N (zI x0) (zI x1) (zo σ)) := by
  unfold zUnits_inSet Units_inSet
  exact zr_of (zUnits_inSet_b0_r N _ hx0 _ hx1 _ hσ) (congr (congr (congrArg (Units_inSet_b0 N) rfl) rfl) rfl)
def zUnits_sixteenth_b60 (N : Nat) (s0 : Int) (σ : z_S) : Option (Int × z_S) := some (s0, σ)
theorem zUnits_sixteenth_b60_r (N : Nat) (s0 : Int) (hs0 : zin s0) (σ : z_S) (hσ : zR σ) : zrel (zUnits_sixteenth_b60 N s0 σ) (Units_sixteenth_b60 N (zI s0) (zo σ)) := by
  unfold zUnits_sixteenth_b60 Units_sixteenth_b60
  exact zr_some rfl hs0 rfl hσ
def zUnits_sixteenth_b59 (N : Nat) (σ : z_S) : Option (Int × z_S) := zUnits_sixteenth_b60 N (-1) σ
theorem zUnits_sixteenth_b59_r (N : Nat) (σ : z_S) (hσ : zR σ) : zrel (zUnits_sixteenth_b59 N σ) (Units_sixteenth_b59 N (zo σ)) := by
  unfold zUnits_sixteenth_b59 Units_sixteenth_b59
  exact zr_of (zUnits_sixteenth_b60_r N _ (by decide) _ hσ) (congr (congrArg (Units_sixteenth_b60 N) (zl_m1)) rfl)
def zUnits_sixteenth_b49 (N : Nat) (x0 : Int) (σ : z_S) : Option (Int × z_S) := if zin (x0 - 65) then if zin ((x0 - 65) + 10) then zUnits_sixteenth_b60 N ((x0 - 65) + 10) σ else none else none
theorem zUnits_sixteenth_b49_r (N : Nat) (x0 : Int) (hx0 : zin x0) (σ : z_S) (hσ : zR σ) : zrel (zUnits_sixteenth_b49 N x0 σ) (Units_sixteenth_b49 N (zI x0) (zo σ)) := by
  unfold zUnits_sixteenth_b49 Units_sixteenth_b49
  refine zr_g (fun g1 => ?_)
  refine zr_g (fun g2 => ?_)
  exact zr_of (zUnits_sixteenth_b60_r N _ g2 _ hσ) (congr (congrArg (Units_sixteenth_b60 N) (zI_add (zI_sub rfl (zl_65)) (zl_10))) rfl)
def zUnits_sixteenth_b43 (N : Nat) (x0 : Int) (σ : z_S) : Option (Int × z_S) := if (70 : Int) < x0 then zUnits_sixteenth_b59 N σ else zUnits_sixteenth_b49 N x0 σ
theorem zUnits_sixteenth_b43_r (N : Nat) (x0 : Int) (hx0 : zin x0) (σ : z_S) (hσ : zR σ) : zrel (zUnits_sixteenth_b43 N x0 σ) (Units_sixteenth_b43 N (zI x0) (zo σ)) := by
  unfold zUnits_sixteenth_b43 Units_sixteenth_b43
  refine zr_ite (zI_lt (zl_70) rfl (by decide) hx0) ?_ ?_
  · exact zr_of (zUnits_sixteenth_b59_r N  _ hσ) (congrArg (Units_sixteenth_b59 N) rfl)
  · exact zr_of (zUnits_sixteenth_b49_r N _ hx0 _ hσ) (congr (congrArg (Units_sixteenth_b49 N) rfl) rfl)
def zUnits_sixteenth_b37 (N : Nat) (x0 : Int) (σ : z_S) : Option (Int × z_S) := if x0 < 65 then zUnits_sixteenth_b59 N σ else zUnits_sixteenth_b43 N x0 σ
theorem zUnits_sixteenth_b37_r (N : Nat) (x0 : Int) (hx0 : zin x0) (σ : z_S) (hσ : zR σ) : zrel (zUnits_sixteenth_b37 N x0 σ) (Units_sixteenth_b37 N (zI x0) (zo σ)) := by
  unfold zUnits_sixteenth_b37 Units_sixteenth_b37
  refine zr_ite (zI_lt rfl (zl_65) hx0 (by decide)) ?_ ?_
  · exact zr_of (zUnits_sixteenth_b59_r N  _ hσ) (congrArg (Units_sixteenth_b59 N) rfl)
  · exact zr_of (zUnits_sixteenth_b43_r N _ hx0 _ hσ) (congr (congrArg (Units_sixteenth_b43 N) rfl) rfl)
def zUnits_sixteenth_b29 (N : Nat) (x0 : Int) (σ : z_S) : Option (Int × z_S) := if zin (x0 - 97) then if zin ((x0 - 97) + 10) then some (((x0 - 97) + 10), σ) else none else none
theorem zUnits_sixteenth_b29_r (N : Nat) (x0 : Int) (hx0 : zin x0) (σ : z_S) (hσ : zR σ) : zrel (zUnits_sixteenth_b29 N x0 σ) (Units_sixteenth_b29 N (zI x0) (zo σ)) := by
  unfold zUnits_sixteenth_b29 Units_sixteenth_b29
  refine zr_g (fun g1 => ?_)
  refine zr_g (fun g2 => ?_)
  exact zr_some (zI_add (zI_sub rfl (zl_97)) (zl_10)) g2 rfl hσ
def zUnits_sixteenth_b23 (N : Nat) (x0 : Int) (σ : z_S) : Option (Int × z_S) := if (102 : Int) < x0 then zUnits_sixteenth_b37 N x0 σ else zUnits_sixteenth_b29 N x0 σ
theorem zUnits_sixteenth_b23_r (N : Nat) (x0 : Int) (hx0 : zin x0) (σ : z_S) (hσ : zR σ) : zrel (zUnits_sixteenth_b23 N x0 σ) (Units_sixteenth_b23 N (zI x0) (zo σ)) := by
  unfold zUnits_sixteenth_b23 Units_sixteenth_b23
  refine zr_ite (zI_lt (zl_102) rfl (by decide) hx0) ?_ ?_
  · exact zr_of (zUnits_sixteenth_b37_r N _ hx0 _ hσ) (congr (congrArg (Units_sixteenth_b37 N) rfl) rfl)
  · exact zr_of (zUnits_sixteenth_b29_r N _ hx0 _ hσ) (congr (congrArg (Units_sixteenth_b29 N) rfl) rfl)
def zUnits_sixteenth_b17 (N : Nat) (x0 : Int) (σ : z_S) : Option (Int × z_S) := if x0 < 97 then zUnits_sixteenth_b37 N x0 σ else zUnits_sixteenth_b23 N x0 σ
theorem zUnits_sixteenth_b17_r (N : Nat) (x0 : Int) (hx0 : zin x0) (σ : z_S) (hσ : zR σ) : zrel (zUnits_sixteenth_b17 N x0 σ) (Units_sixteenth_b17 N (zI x0) (zo σ)) := by
  unfold zUnits_sixteenth_b17 Units_sixteenth_b17
  refine zr_ite (zI_lt rfl (zl_97) hx0 (by decide)) ?_ ?_
  · exact zr_of (zUnits_sixteenth_b37_r N _ hx0 _ hσ) (congr (congrArg (Units_sixteenth_b37 N) rfl) rfl)
  · exact zr_of (zUnits_sixteenth_b23_r N _ hx0 _ hσ) (congr (congrArg (Units_sixteenth_b23 N) rfl) rfl)
def zUnits_sixteenth_b12 (N : Nat) (x0 : Int) (σ : z_S) : Option (Int × z_S) := if zin (x0 - 48) then some ((x0 - 48), σ) else none
theorem zUnits_sixteenth_b12_r (N : Nat) (x0 : Int) (hx0 : zin x0) (σ : z_S) (hσ : zR σ) : zrel (zUnits_sixteenth_b12 N x0 σ) (Units_sixteenth_b12 N (zI x0) (zo σ)) := by
  unfold zUnits_sixteenth_b12 Units_sixteenth_b12
  refine zr_g (fun g1 => ?_)
  exact zr_some (zI_sub rfl (zl_48)) g1 rfl hσ
def zUnits_sixteenth_b6 (N : Nat) (x0 : Int) (σ : z_S) : Option (Int × z_S) := if (57 : Int) < x0 then zUnits_sixteenth_b17 N x0 σ else zUnits_sixteenth_b12 N x0 σ
theorem zUnits_sixteenth_b6_r (N : Nat) (x0 : Int) (hx0 : zin x0) (σ : z_S) (hσ : zR σ) : zrel (zUnits_sixteenth_b6 N x0 σ) (Units_sixteenth_b6 N (zI x0) (zo σ)) := by
  unfold zUnits_sixteenth_b6 Units_sixteenth_b6
  refine zr_ite (zI_lt (zl_57) rfl (by decide) hx0) ?_ ?_
  · exact zr_of (zUnits_sixteenth_b17_r N _ hx0 _ hσ) (congr (congrArg (Units_sixteenth_b17 N) rfl) rfl)
  · exact zr_of (zUnits_sixteenth_b12_r N _ hx0 _ hσ) (congr (congrArg (Units_sixteenth_b12 N) rfl) rfl)
def zUnits_sixteenth_b0 (N : Nat) (x0 : Int) (σ : z_S) : Option (Int × z_S) := if x0 < 48 then zUnits_sixteenth_b17 N x0 σ else zUnits_sixteenth_b6 N x0 σ
theorem zUnits_sixteenth_b0_r (N : Nat) (x0 : Int) (hx0 : zin x0) (σ : z_S) (hσ : zR σ) : zrel (zUnits_sixteenth_b0 N x0 σ) (Units_sixteenth_b0 N (zI x0) (zo σ)) := by
  unfold zUnits_sixteenth_b0 Units_sixteenth_b0
  refine zr_ite (zI_lt rfl (zl_48) hx0 (by decide)) ?_ ?_
  · exact zr_of (zUnits_sixteenth_b17_r N _ hx0 _ hσ) (congr (congrArg (Units_sixteenth_b17 N) rfl) rfl)
  · exact zr_of (zUnits_sixteenth_b6_r N _ hx0 _ hσ) (congr (congrArg (Units_sixteenth_b6 N) rfl) rfl)
def zUnits_sixteenth (N : Nat) (x0 : Int) (σ : z_S) : Option (Int × z_S) := zUnits_sixteenth_b0 N x0 σ
theorem zUnits_sixteenth_r (N : Nat) (x0 : Int) (hx0 : zin x0) (σ : z_S) (hσ : zR σ) : zrel (zUnits_sixteenth N x0 σ) (Units_sixteenth N (zI x0) (zo σ)) := by
  unfold zUnits_sixteenth Units_sixteenth
  exact zr_of (zUnits_sixteenth_b0_r N _ hx0 _ hσ) (congr (congrArg (Units_sixteenth_b0 N) rfl) rfl)
def zUnits_upper_b63 (N : Nat) (s0 : Int) (σ : z_S) : Option (Int × z_S) := some (s0, σ)
theorem zUnits_upper_b63_r (N : Nat) (s0 : Int) (hs0 : zin s0) (σ : z_S) (hσ : zR σ) : zrel (zUnits_upper_b63 N s0 σ) (Units_upper_b63 N (zI s0) (zo σ)) := by
  unfold zUnits_upper_b63 Units_upper_b63
  exact zr_some rfl hs0 rfl hσ
def zUnits_upper_b62 (N : Nat) (x0 : Int) (σ : z_S) : Option (Int × z_S) := zUnits_upper_b63 N x0 σ
theorem zUnits_upper_b62_r (N : Nat) (x0 : Int) (hx0 : zin x0) (σ : z_S) (hσ : zR σ) : zrel (zUnits_upper_b62 N x0 σ) (Units_upper_b62 N (zI x0) (zo σ)) := by
  unfold zUnits_upper_b62 Units_upper_b62
  exact zr_of (zUnits_upper_b63_r N _ hx0 _ hσ) (congr (congrArg (Units_upper_b63 N) rfl) rfl)
def zUnits_upper_b56 (N : Nat) (σ : z_S) : Option (Int × z_S) := zUnits_upper_b63 N 924 σ
theorem zUnits_upper_b56_r (N : Nat) (σ : z_S) (hσ : zR σ) : zrel (zUnits_upper_b56 N σ) (Units_upper_b56 N (zo σ)) := by
  unfold zUnits_upper_b56 Units_upper_b56
  exact zr_of (zUnits_upper_b63_r N _ (by decide) _ hσ) (congr (congrArg (Units_upper_b63 N) (zl_924)) rfl)
def zUnits_upper_b49 (N : Nat) (x0 : Int) (σ : z_S) : Option (Int × z_S) := if x0 = 181 then zUnits_upper_b56 N σ else zUnits_upper_b62 N x0 σ
theorem zUnits_upper_b49_r (N : Nat) (x0 : Int) (hx0 : zin x0) (σ : z_S) (hσ : zR σ) : zrel (zUnits_upper_b49 N x0 σ) (Units_upper_b49 N (zI x0) (zo σ)) := by
  unfold zUnits_upper_b49 Units_upper_b49
  refine zr_ite (zI_eq rfl (zl_181) hx0 (by decide)) ?_ ?_
  · exact zr_of (zUnits_upper_b56_r N  _ hσ) (congrArg (Units_upper_b56 N) rfl)
  · exact zr_of (zUnits_upper_b62_r N _ hx0 _ hσ) (congr (congrArg (Units_upper_b62 N) rfl) rfl)
def zUnits_upper_b45 (N : Nat) (σ : z_S) : Option (Int × z_S) := some (376, σ)
theorem zUnits_upper_b45_r (N : Nat) (σ : z_S) (hσ : zR σ) : zrel (zUnits_upper_b45 N σ) (Units_upper_b45 N (zo σ)) := by
  unfold zUnits_upper_b45 Units_upper_b45
  exact zr_some (zl_376) (by decide) rfl hσ
def zUnits_upper_b38 (N : Nat) (x0 : Int) (σ : z_S) : Option (Int × z_S) := if x0 = 255 then zUnits_upper_b45 N σ else zUnits_upper_b49 N x0 σ
theorem zUnits_upper_b38_r (N : Nat) (x0 : Int) (hx0 : zin x0) (σ : z_S) (hσ : zR σ) : zrel (zUnits_upper_b38 N x0 σ) (Units_upper_b38 N (zI x0) (zo σ)) := by
  unfold zUnits_upper_b38 Units_upper_b38
  refine zr_ite (zI_eq rfl (zl_255) hx0 (by decide)) ?_ ?_
  · exact zr_of (zUnits_upper_b45_r N  _ hσ) (congrArg (Units_upper_b45 N) rfl)
  · exact zr_of (zUnits_upper_b49_r N _ hx0 _ hσ) (congr (congrArg (Units_upper_b49 N) rfl) rfl)
def zUnits_upper_b33 (N : Nat) (x0 : Int) (σ : z_S) : Option (Int × z_S) := if zin (x0 - 32) then some ((x0 - 32), σ) else none
theorem zUnits_upper_b33_r (N : Nat) (x0 : Int) (hx0 : zin x0) (σ : z_S) (hσ : zR σ) : zrel (zUnits_upper_b33 N x0 σ) (Units_upper_b33 N (zI x0) (zo σ)) := by
  unfold zUnits_upper_b33 Units_upper_b33
  refine zr_g (fun g1 => ?_)
  exact zr_some (zI_sub rfl (zl_32)) g1 rfl hσ
def zUnits_upper_b26 (N : Nat) (x0 : Int) (σ : z_S) : Option (Int × z_S) := if x0 = 247 then zUnits_upper_b38 N x0 σ else zUnits_upper_b33 N x0 σ
theorem zUnits_upper_b26_r (N : Nat) (x0 : Int) (hx0 : zin x0) (σ : z_S) (hσ : zR σ) : zrel (zUnits_upper_b26 N x0 σ) (Units_upper_b26 N (zI x0) (zo σ)) := by
  unfold zUnits_upper_b26 Units_upper_b26
  refine zr_ite (zI_eq rfl (zl_247) hx0 (by decide)) ?_ ?_
  · exact zr_of (zUnits_upper_b38_r N _ hx0 _ hσ) (congr (congrArg (Units_upper_b38 N) rfl) rfl)
  · exact zr_of (zUnits_upper_b33_r N _ hx0 _ hσ) (congr (congrArg (Units_upper_b33 N) rfl) rfl)
def zUnits_upper_b19 (N : Nat) (x0 : Int) (σ : z_S) : Option (Int × z_S) := if (254 : Int) < x0 then zUnits_upper_b38 N x0 σ else zUnits_upper_b26 N x0 σ
theorem zUnits_upper_b19_r (N : Nat) (x0 : Int) (hx0 : zin x0) (σ : z_S) (hσ : zR σ) : zrel (zUnits_upper_b19 N x0 σ) (Units_upper_b19 N (zI x0) (zo σ)) := by
  unfold zUnits_upper_b19 Units_upper_b19
  refine zr_ite (zI_lt (zl_254) rfl (by decide) hx0) ?_ ?_
  · exact zr_of (zUnits_upper_b38_r N _ hx0 _ hσ) (congr (congrArg (Units_upper_b38 N) rfl) rfl)
  · exact zr_of (zUnits_upper_b26_r N _ hx0 _ hσ) (congr (congrArg (Units_upper_b26 N) rfl) rfl)
def zUnits_upper_b12 (N : Nat) (x0 : Int) (σ : z_S) : Option (Int × z_S) := if x0 < 224 then zUnits_upper_b38 N x0 σ else zUnits_upper_b19 N x0 σ
theorem zUnits_upper_b12_r (N : Nat) (x0 : Int) (hx0 : zin x0) (σ : z_S) (hσ : zR σ) : zrel (zUnits_upper_b12 N x0 σ) (Units_upper_b12 N (zI x0) (zo σ)) := by
  unfold zUnits_upper_b12 Units_upper_b12
  refine zr_ite (zI_lt rfl (zl_224) hx0 (by decide)) ?_ ?_
  · exact zr_of (zUnits_upper_b38_r N _ hx0 _ hσ) (congr (congrArg (Units_upper_b38 N) rfl) rfl)
  · exact zr_of (zUnits_upper_b19_r N _ hx0 _ hσ) (congr (congrArg (Units_upper_b19 N) rfl) rfl)
def zUnits_upper_b6 (N : Nat) (x0 : Int) (σ : z_S) : Option (Int × z_S) := if x0 ≤ 122 then zUnits_upper_b33 N x0 σ else zUnits_upper_b12 N x0 σ
theorem zUnits_upper_b6_r (N : Nat) (x0 : Int) (hx0 : zin x0) (σ : z_S) (hσ : zR σ) : zrel (zUnits_upper_b6 N x0 σ) (Units_upper_b6 N (zI x0) (zo σ)) := by
  unfold zUnits_upper_b6 Units_upper_b6
  refine zr_ite (zI_le rfl (zl_122) hx0 (by decide)) ?_ ?_
  · exact zr_of (zUnits_upper_b33_r N _ hx0 _ hσ) (congr (congrArg (Units_upper_b33 N) rfl) rfl)
  · exact zr_of (zUnits_upper_b12_r N _ hx0 _ hσ) (congr (congrArg (Units_upper_b12 N) rfl) rfl)
def zUnits_upper_b0 (N : Nat) (x0 : Int) (σ : z_S) : Option (Int × z_S) := if x0 < 97 then zUnits_upper_b12 N x0 σ else zUnits_upper_b6 N x0 σ
theorem zUnits_upper_b0_r (N : Nat) (x0 : Int) (hx0 : zin x0) (σ : z_S) (hσ : zR σ) : zrel (zUnits_upper_b0 N x0 σ) (Units_upper_b0 N (zI x0) (zo σ)) := by
  unfold zUnits_upper_b0 Units_upper_b0
  refine zr_ite (zI_lt rfl (zl_97) hx0 (by decide)) ?_ ?_
  · exact zr_of (zUnits_upper_b12_r N _ hx0 _ hσ) (congr (congrArg (Units_upper_b12 N) rfl) rfl)
  · exact zr_of (zUnits_upper_b6_r N _ hx0 _ hσ) (congr (congrArg (Units_upper_b6 N) rfl) rfl)
def zUnits_upper (N : Nat) (x0 : Int) (σ : z_S) : Option (Int × z_S) := zUnits_upper_b0 N x0 σ
theorem zUnits_upper_r (N : Nat) (x0 : Int) (hx0 : zin x0) (σ : z_S) (hσ : zR σ) : zrel (zUnits_upper N x0 σ) (Units_upper N (zI x0) (zo σ)) := by
  unfold zUnits_upper Units_upper
  exact zr_of (zUnits_upper_b0_r N _ hx0 _ hσ) (congr (congrArg (Units_upper_b0 N) rfl) rfl)
def zUnits_twin_b75 (N : Nat) (s0 : Int) (σ : z_S) : Option (Int × z_S) := some (s0, σ)
theorem zUnits_twin_b75_r (N : Nat) (s0 : Int) (hs0 : zin s0) (σ : z_S) (hσ : zR σ) : zrel (zUnits_twin_b75 N s0 σ) (Units_twin_b75 N (zI s0) (zo σ)) := by
  unfold zUnits_twin_b75 Units_twin_b75
  exact zr_some rfl hs0 rfl hσ
def zUnits_twin_b74 (N : Nat) (x0 : Int) (σ : z_S) : Option (Int × z_S) := zUnits_twin_b75 N x0 σ
theorem zUnits_twin_b74_r (N : Nat) (x0 : Int) (hx0 : zin x0) (σ : z_S) (hσ : zR σ) : zrel (zUnits_twin_b74 N x0 σ) (Units_twin_b74 N (zI x0) (zo σ)) := by
  unfold zUnits_twin_b74 Units_twin_b74
  exact zr_of (zUnits_twin_b75_r N _ hx0 _ hσ) (congr (congrArg (Units_twin_b75 N) rfl) rfl)
def zUnits_twin_b68 (N : Nat) (σ : z_S) : Option (Int × z_S) := zUnits_twin_b75 N 181 σ
theorem zUnits_twin_b68_r (N : Nat) (σ : z_S) (hσ : zR σ) : zrel (zUnits_twin_b68 N σ) (Units_twin_b68 N (zo σ)) := by
  unfold zUnits_twin_b68 Units_twin_b68
  exact zr_of (zUnits_twin_b75_r N _ (by decide) _ hσ) (congr (congrArg (Units_twin_b75 N) (zl_181)) rfl)
def zUnits_twin_b61 (N : Nat) (x0 : Int) (σ : z_S) : Option (Int × z_S) := if x0 = 924 then zUnits_twin_b68 N σ else zUnits_twin_b74 N x0 σ
theorem zUnits_twin_b61_r (N : Nat) (x0 : Int) (hx0 : zin x0) (σ : z_S) (hσ : zR σ) : zrel (zUnits_twin_b61 N x0 σ) (Units_twin_b61 N (zI x0) (zo σ)) := by
  unfold zUnits_twin_b61 Units_twin_b61
  refine zr_ite (zI_eq rfl (zl_924) hx0 (by decide)) ?_ ?_
  · exact zr_of (zUnits_twin_b68_r N  _ hσ) (congrArg (Units_twin_b68 N) rfl)
  · exact zr_of (zUnits_twin_b74_r N _ hx0 _ hσ) (congr (congrArg (Units_twin_b74 N) rfl) rfl)
def zUnits_twin_b57 (N : Nat) (σ : z_S) : Option (Int × z_S) := some (255, σ)
theorem zUnits_twin_b57_r (N : Nat) (σ : z_S) (hσ : zR σ) : zrel (zUnits_twin_b57 N σ) (Units_twin_b57 N (zo σ)) := by
  unfold zUnits_twin_b57 Units_twin_b57
  exact zr_some (zl_255) (by decide) rfl hσ
def zUnits_twin_b50 (N : Nat) (x0 : Int) (σ : z_S) : Option (Int × z_S) := if x0 = 376 then zUnits_twin_b57 N σ else zUnits_twin_b61 N x0 σ
theorem zUnits_twin_b50_r (N : Nat) (x0 : Int) (hx0 : zin x0) (σ : z_S) (hσ : zR σ) : zrel (zUnits_twin_b50 N x0 σ) (Units_twin_b50 N (zI x0) (zo σ)) := by
  unfold zUnits_twin_b50 Units_twin_b50
  refine zr_ite (zI_eq rfl (zl_376) hx0 (by decide)) ?_ ?_
  · exact zr_of (zUnits_twin_b57_r N  _ hσ) (congrArg (Units_twin_b57 N) rfl)
  · exact zr_of (zUnits_twin_b61_r N _ hx0 _ hσ) (congr (congrArg (Units_twin_b61 N) rfl) rfl)
def zUnits_twin_b45 (N : Nat) (x0 : Int) (σ : z_S) : Option (Int × z_S) := if zin (x0 + 32) then some ((x0 + 32), σ) else none
theorem zUnits_twin_b45_r (N : Nat) (x0 : Int) (hx0 : zin x0) (σ : z_S) (hσ : zR σ) : zrel (zUnits_twin_b45 N x0 σ) (Units_twin_b45 N (zI x0) (zo σ)) := by
  unfold zUnits_twin_b45 Units_twin_b45
  refine zr_g (fun g1 => ?_)
  exact zr_some (zI_add rfl (zl_32)) g1 rfl hσ
def zUnits_twin_b38 (N : Nat) (x0 : Int) (σ : z_S) : Option (Int × z_S) := if x0 = 215 then zUnits_twin_b50 N x0 σ else zUnits_twin_b45 N x0 σ
theorem zUnits_twin_b38_r (N : Nat) (x0 : Int) (hx0 : zin x0) (σ : z_S) (hσ : zR σ) : zrel (zUnits_twin_b38 N x0 σ) (Units_twin_b38 N (zI x0) (zo σ)) := by
  unfold zUnits_twin_b38 Units_twin_b38
  refine zr_ite (zI_eq rfl (zl_215) hx0 (by decide)) ?_ ?_
  · exact zr_of (zUnits_twin_b50_r N _ hx0 _ hσ) (congr (congrArg (Units_twin_b50 N) rfl) rfl)
  · exact zr_of (zUnits_twin_b45_r N _ hx0 _ hσ) (congr (congrArg (Units_twin_b45 N) rfl) rfl)
def zUnits_twin_b31 (N : Nat) (x0 : Int) (σ : z_S) : Option (Int × z_S) := if (222 : Int) < x0 then zUnits_twin_b50 N x0 σ else zUnits_twin_b38 N x0 σ
theorem zUnits_twin_b31_r (N : Nat) (x0 : Int) (hx0 : zin x0) (σ : z_S) (hσ : zR σ) : zrel (zUnits_twin_b31 N x0 σ) (Units_twin_b31 N (zI x0) (zo σ)) := by
  unfold zUnits_twin_b31 Units_twin_b31
  refine zr_ite (zI_lt (zl_222) rfl (by decide) hx0) ?_ ?_
  · exact zr_of (zUnits_twin_b50_r N _ hx0 _ hσ) (congr (congrArg (Units_twin_b50 N) rfl) rfl)
  · exact zr_of (zUnits_twin_b38_r N _ hx0 _ hσ) (congr (congrArg (Units_twin_b38 N) rfl) rfl)
def zUnits_twin_b24 (N : Nat) (x0 : Int) (σ : z_S) : Option (Int × z_S) := if x0 < 192 then zUnits_twin_b50 N x0 σ else zUnits_twin_b31 N x0 σ
theorem zUnits_twin_b24_r (N : Nat) (x0 : Int) (hx0 : zin x0) (σ : z_S) (hσ : zR σ) : zrel (zUnits_twin_b24 N x0 σ) (Units_twin_b24 N (zI x0) (zo σ)) := by
  unfold zUnits_twin_b24 Units_twin_b24
  refine zr_ite (zI_lt rfl (zl_192) hx0 (by decide)) ?_ ?_
  · exact zr_of (zUnits_twin_b50_r N _ hx0 _ hσ) (congr (congrArg (Units_twin_b50 N) rfl) rfl)
  · exact zr_of (zUnits_twin_b31_r N _ hx0 _ hσ) (congr (congrArg (Units_twin_b31 N) rfl) rfl)
def zUnits_twin_b18 (N : Nat) (x0 : Int) (σ : z_S) : Option (Int × z_S) := if x0 ≤ 90 then zUnits_twin_b45 N x0 σ else zUnits_twin_b24 N x0 σ
theorem zUnits_twin_b18_r (N : Nat) (x0 : Int) (hx0 : zin x0) (σ : z_S) (hσ : zR σ) : zrel (zUnits_twin_b18 N x0 σ) (Units_twin_b18 N (zI x0) (zo σ)) := by
  unfold zUnits_twin_b18 Units_twin_b18
  refine zr_ite (zI_le rfl (zl_90) hx0 (by decide)) ?_ ?_
  · exact zr_of (zUnits_twin_b45_r N _ hx0 _ hσ) (congr (congrArg (Units_twin_b45 N) rfl) rfl)
  · exact zr_of (zUnits_twin_b24_r N _ hx0 _ hσ) (congr (congrArg (Units_twin_b24 N) rfl) rfl)
def zUnits_twin_b12 (N : Nat) (x0 : Int) (σ : z_S) : Option (Int × z_S) := if x0 < 65 then zUnits_twin_b24 N x0 σ else zUnits_twin_b18 N x0 σ
theorem zUnits_twin_b12_r (N : Nat) (x0 : Int) (hx0 : zin x0) (σ : z_S) (hσ : zR σ) : zrel (zUnits_twin_b12 N x0 σ) (Units_twin_b12 N (zI x0) (zo σ)) := by
  unfold zUnits_twin_b12 Units_twin_b12
  refine zr_ite (zI_lt rfl (zl_65) hx0 (by decide)) ?_ ?_
  · exact zr_of (zUnits_twin_b24_r N _ hx0 _ hσ) (congr (congrArg (Units_twin_b24 N) rfl) rfl)
  · exact zr_of (zUnits_twin_b18_r N _ hx0 _ hσ) (congr (congrArg (Units_twin_b18 N) rfl) rfl)
def zUnits_twin_b10 (N : Nat) (x1 : Int) (σ : z_S) : Option (Int × z_S) := some (x1, σ)
theorem zUnits_twin_b10_r (N : Nat) (x1 : Int) (hx1 : zin x1) (σ : z_S) (hσ : zR σ) : zrel (zUnits_twin_b10 N x1 σ) (Units_twin_b10 N (zI x1) (zo σ)) := by
  unfold zUnits_twin_b10 Units_twin_b10
  exact zr_some rfl hx1 rfl hσ
def zUnits_twin_b0 (N : Nat) (x0 : Int) (σ : z_S) : Option (Int × z_S) := (zUnits_upper N x0 σ).bind fun q1 => if q1.1 = x0 then zUnits_twin_b12 N x0 q1.2 else zUnits_twin_b10 N q1.1 q1.2
theorem zUnits_twin_b0_r (N : Nat) (x0 : Int) (hx0 : zin x0) (σ : z_S) (hσ : zR σ) : zrel (zUnits_twin_b0 N x0 σ) (Units_twin_b0 N (zI x0) (zo σ)) := by
  unfold zUnits_twin_b0 Units_twin_b0
  refine zr_bind (zr_of (zUnits_upper_r N _ hx0 _ hσ) (congr (congrArg (Units_upper N) rfl) rfl)) (fun r1 s1σ hr1 hs1 => ?_)
  dsimp only
  refine zr_ite (zI_eq rfl rfl hr1 hx0) ?_ ?_
  · exact zr_of (zUnits_twin_b12_r N _ hx0 _ hs1) (congr (congrArg (Units_twin_b12 N) rfl) rfl)
  · exact zr_of (zUnits_twin_b10_r N _ hr1 _ hs1) (congr (congrArg (Units_twin_b10 N) rfl) rfl)
def zUnits_twin (N : Nat) (x0 : Int) (σ : z_S) : Option (Int × z_S) := zUnits_twin_b0 N x0 σ
theorem zUnits_twin_r (N : Nat) (x0 : Int) (hx0 : zin x0) (σ : z_S) (hσ : zR σ) : zrel (zUnits_twin N x0 σ) (Units_twin N (zI x0) (zo σ)) := by
  unfold zUnits_twin Units_twin
  exact zr_of (zUnits_twin_b0_r N _ hx0 _ hσ) (congr (congrArg (Units_twin_b0 N) rfl) rfl)
def zProgram_clear_b0 (N : Nat) (σ : z_S) : Option (Int × z_S) := some (0, (zF (zF (zF (zF (zF σ 4 0) 5 0) 6 0) 7 0) 8 0))
theorem zProgram_clear_b0_r (N : Nat) (σ : z_S) (hσ : zR σ) : zrel (zProgram_clear_b0 N σ) (Program_clear_b0 N (zo σ)) := by
  unfold zProgram_clear_b0 Program_clear_b0
  exact zr_some (zl_0) (by decide) (zo_F (k := 8) (zo_F (k := 7) (zo_F (k := 6) (zo_F (k := 5) (zo_F (k := 4) rfl (zl_0)) (zl_0)) (zl_0)) (zl_0)) (zl_0)) (zR_F (k := 8) (zR_F (k := 7) (zR_F (k := 6) (zR_F (k := 5) (zR_F (k := 4) hσ (by decide)) (by decide)) (by decide)) (by decide)) (by decide))
def zProgram_clear (N : Nat) (σ : z_S) : Option (Int × z_S) := zProgram_clear_b0 N σ
theorem zProgram_clear_r (N : Nat) (σ : z_S) (hσ : zR σ) : zrel (zProgram_clear N σ) (Program_clear N (zo σ)) := by
  unfold zProgram_clear Program_clear
  exact zr_of (zProgram_clear_b0_r N  _ hσ) (congrArg (Program_clear_b0 N) rfl)
def zProgram_addNode_b61 (N : Nat) (x4 : Int) (σ : z_S) : Option (Int × z_S) := some (x4, σ)
theorem zProgram_addNode_b61_r (N : Nat) (x4 : Int) (hx4 : zin x4) (σ : z_S) (hσ : zR σ) : zrel (zProgram_addNode_b61 N x4 σ) (Program_addNode_b61 N (zI x4) (zo σ)) := by
  unfold zProgram_addNode_b61 Program_addNode_b61
  exact zr_some rfl hx4 rfl hσ
def zProgram_addNode_b19 (N : Nat) (x1 : Int) (x2 : Int) (x3 : Int) (x4 : Int) (σ : z_S) : Option (Int × z_S) := if zIn x4 602 then if zin ((σ.1 4) + 1) then zProgram_addNode_b61 N x4 (zF (zA (zA (zA (zA σ 1 (x4).toNat x1) 2 (x4).toNat 0) 3 (x4).toNat x2) 4 (x4).toNat x3) 4 ((σ.1 4) + 1)) else none else none
theorem zProgram_addNode_b19_r (N : Nat) (x1 : Int) (hx1 : zin x1) (x2 : Int) (hx2 : zin x2) (x3 : Int) (hx3 : zin x3) (x4 : Int) (hx4 : zin x4) (σ : z_S) (hσ : zR σ) : zrel (zProgram_addNode_b19 N x1 x2 x3 x4 σ) (Program_addNode_b19 N (zI x1) (zI x2) (zI x3) (zI x4) (zo σ)) := by
  unfold zProgram_addNode_b19 Program_addNode_b19
  refine zr_gg (zg_in rfl hx4) (fun g1 => ?_)
  refine zr_g (fun g2 => ?_)
  exact zr_of (zProgram_addNode_b61_r N _ hx4 _ (zR_F (k := 4) (zR_A (a := 4) (i := _) (zR_A (a := 3) (i := _) (zR_A (a := 2) (i := _) (zR_A (a := 1) (i := _) hσ hx1) (by decide)) hx2) hx3) g2)) (congr (congrArg (Program_addNode_b61 N) rfl) (zo_F (k := 4) (zo_A (a := 4) (zo_A (a := 3) (zo_A (a := 2) (zo_A (a := 1) rfl rfl hx4 rfl) rfl hx4 (zl_0)) rfl hx4 rfl) rfl hx4 rfl) (zI_add (zo_fld rfl 4) (zl_1))))
def zProgram_addNode_b11 (N : Nat) (x1 : Int) (x2 : Int) (x3 : Int) (x4 : Int) (σ : z_S) : Option (Int × z_S) := if (602 : Int) ≤ x4 then zProgram_addNode_b61 N x4 σ else zProgram_addNode_b19 N x1 x2 x3 x4 σ
theorem zProgram_addNode_b11_r (N : Nat) (x1 : Int) (hx1 : zin x1) (x2 : Int) (hx2 : zin x2) (x3 : Int) (hx3 : zin x3) (x4 : Int) (hx4 : zin x4) (σ : z_S) (hσ : zR σ) : zrel (zProgram_addNode_b11 N x1 x2 x3 x4 σ) (Program_addNode_b11 N (zI x1) (zI x2) (zI x3) (zI x4) (zo σ)) := by
  unfold zProgram_addNode_b11 Program_addNode_b11
  refine zr_ite (zI_le (zl_602) rfl (by decide) hx4) ?_ ?_
  · exact zr_of (zProgram_addNode_b61_r N _ hx4 _ hσ) (congr (congrArg (Program_addNode_b61 N) rfl) rfl)
  · exact zr_of (zProgram_addNode_b19_r N _ hx1 _ hx2 _ hx3 _ hx4 _ hσ) (congr (congr (congr (congr (congrArg (Program_addNode_b19 N) rfl) rfl) rfl) rfl) rfl)
def zProgram_addNode_b0 (N : Nat) (x1 : Int) (x2 : Int) (x3 : Int) (σ : z_S) : Option (Int × z_S) := if (σ.1 4) < 0 then zProgram_addNode_b61 N (σ.1 4) σ else zProgram_addNode_b11 N x1 x2 x3 (σ.1 4) σ
theorem zProgram_addNode_b0_r (N : Nat) (x1 : Int) (hx1 : zin x1) (x2 : Int) (hx2 : zin x2) (x3 : Int) (hx3 : zin x3) (σ : z_S) (hσ : zR σ) : zrel (zProgram_addNode_b0 N x1 x2 x3 σ) (Program_addNode_b0 N (zI x1) (zI x2) (zI x3) (zo σ)) := by
  unfold zProgram_addNode_b0 Program_addNode_b0
  refine zr_ite (zI_lt (zo_fld rfl 4) (zl_0) (hσ.1 4) (by decide)) ?_ ?_
  · exact zr_of (zProgram_addNode_b61_r N _ (hσ.1 4) _ hσ) (congr (congrArg (Program_addNode_b61 N) (zo_fld rfl 4)) rfl)
  · exact zr_of (zProgram_addNode_b11_r N _ hx1 _ hx2 _ hx3 _ (hσ.1 4) _ hσ) (congr (congr (congr (congr (congrArg (Program_addNode_b11 N) rfl) rfl) rfl) (zo_fld rfl 4)) rfl)
def zProgram_addNode (N : Nat) (x1 : Int) (x2 : Int) (x3 : Int) (σ : z_S) : Option (Int × z_S) := zProgram_addNode_b0 N x1 x2 x3 σ
theorem zProgram_addNode_r (N : Nat) (x1 : Int) (hx1 : zin x1) (x2 : Int) (hx2 : zin x2) (x3 : Int) (hx3 : zin x3) (σ : z_S) (hσ : zR σ) : zrel (zProgram_addNode N x1 x2 x3 σ) (Program_addNode N (zI x1) (zI x2) (zI x3) (zo σ)) := by
  unfold zProgram_addNode Program_addNode
  exact zr_of (zProgram_addNode_b0_r N _ hx1 _ hx2 _ hx3 _ hσ) (congr (congr (congr (congrArg (Program_addNode_b0 N) rfl) rfl) rfl) rfl)
def zProgram_link_b0 (N : Nat) (x1 : Int) (x2 : Int) (σ : z_S) : Option (Int × z_S) := (zRows_write N 2 x1 x2 σ).bind fun q6 => some (0, q6.2)
theorem zProgram_link_b0_r (N : Nat) (x1 : Int) (hx1 : zin x1) (x2 : Int) (hx2 : zin x2) (σ : z_S) (hσ : zR σ) : zrel (zProgram_link_b0 N x1 x2 σ) (Program_link_b0 N (zI x1) (zI x2) (zo σ)) := by
  unfold zProgram_link_b0 Program_link_b0
  refine zr_bind (zr_of (zRows_write_r N 2 _ hx1 _ hx2 _ hσ) (congr (congr (congrArg (Rows_write N 2) rfl) rfl) rfl)) (fun r6 s6σ hr6 hs6 => ?_)
  dsimp only
  exact zr_some (zl_0) (by decide) rfl hs6
def zProgram_link (N : Nat) (x1 : Int) (x2 : Int) (σ : z_S) : Option (Int × z_S) := zProgram_link_b0 N x1 x2 σ
theorem zProgram_link_r (N : Nat) (x1 : Int) (hx1 : zin x1) (x2 : Int) (hx2 : zin x2) (σ : z_S) (hσ : zR σ) : zrel (zProgram_link N x1 x2 σ) (Program_link N (zI x1) (zI x2) (zo σ)) := by
  unfold zProgram_link Program_link
  exact zr_of (zProgram_link_b0_r N _ hx1 _ hx2 _ hσ) (congr (congr (congrArg (Program_link_b0 N) rfl) rfl) rfl)
def zProgram_addMember_b47 (N : Nat) (σ : z_S) : Option (Int × z_S) := some (0, σ)
theorem zProgram_addMember_b47_r (N : Nat) (σ : z_S) (hσ : zR σ) : zrel (zProgram_addMember_b47 N σ) (Program_addMember_b47 N (zo σ)) := by
  unfold zProgram_addMember_b47 Program_addMember_b47
  exact zr_some (zl_0) (by decide) rfl hσ
def zProgram_addMember_b17 (N : Nat) (x1 : Int) (x2 : Int) (σ : z_S) : Option (Int × z_S) := if zIn (σ.1 5) 200 then if zin ((σ.1 5) + 1) then zProgram_addMember_b47 N (zF (zA (zA σ 5 ((σ.1 5)).toNat x1) 6 ((σ.1 5)).toNat x2) 5 ((σ.1 5) + 1)) else none else none
theorem zProgram_addMember_b17_r (N : Nat) (x1 : Int) (hx1 : zin x1) (x2 : Int) (hx2 : zin x2) (σ : z_S) (hσ : zR σ) : zrel (zProgram_addMember_b17 N x1 x2 σ) (Program_addMember_b17 N (zI x1) (zI x2) (zo σ)) := by
  unfold zProgram_addMember_b17 Program_addMember_b17
  refine zr_gg (zg_in (zo_fld rfl 5) (hσ.1 5)) (fun g1 => ?_)
  refine zr_g (fun g2 => ?_)
  exact zr_of (zProgram_addMember_b47_r N  _ (zR_F (k := 5) (zR_A (a := 6) (i := _) (zR_A (a := 5) (i := _) hσ hx1) hx2) g2)) (congrArg (Program_addMember_b47 N) (zo_F (k := 5) (zo_A (a := 6) (zo_A (a := 5) rfl (zo_fld rfl 5) (hσ.1 5) rfl) (zo_fld rfl 5) (hσ.1 5) rfl) (zI_add (zo_fld rfl 5) (zl_1))))
def zProgram_addMember_b7 (N : Nat) (x1 : Int) (x2 : Int) (σ : z_S) : Option (Int × z_S) := if (200 : Int) ≤ (σ.1 5) then zProgram_addMember_b47 N σ else zProgram_addMember_b17 N x1 x2 σ
theorem zProgram_addMember_b7_r (N : Nat) (x1 : Int) (hx1 : zin x1) (x2 : Int) (hx2 : zin x2) (σ : z_S) (hσ : zR σ) : zrel (zProgram_addMember_b7 N x1 x2 σ) (Program_addMember_b7 N (zI x1) (zI x2) (zo σ)) := by
  unfold zProgram_addMember_b7 Program_addMember_b7
  refine zr_ite (zI_le (zl_200) (zo_fld rfl 5) (by decide) (hσ.1 5)) ?_ ?_
  · exact zr_of (zProgram_addMember_b47_r N  _ hσ) (congrArg (Program_addMember_b47 N) rfl)
  · exact zr_of (zProgram_addMember_b17_r N _ hx1 _ hx2 _ hσ) (congr (congr (congrArg (Program_addMember_b17 N) rfl) rfl) rfl)
def zProgram_addMember_b0 (N : Nat) (x1 : Int) (x2 : Int) (σ : z_S) : Option (Int × z_S) := if (σ.1 5) < 0 then zProgram_addMember_b47 N σ else zProgram_addMember_b7 N x1 x2 σ
theorem zProgram_addMember_b0_r (N : Nat) (x1 : Int) (hx1 : zin x1) (x2 : Int) (hx2 : zin x2) (σ : z_S) (hσ : zR σ) : zrel (zProgram_addMember_b0 N x1 x2 σ) (Program_addMember_b0 N (zI x1) (zI x2) (zo σ)) := by
  unfold zProgram_addMember_b0 Program_addMember_b0
  refine zr_ite (zI_lt (zo_fld rfl 5) (zl_0) (hσ.1 5) (by decide)) ?_ ?_
  · exact zr_of (zProgram_addMember_b47_r N  _ hσ) (congrArg (Program_addMember_b47 N) rfl)
  · exact zr_of (zProgram_addMember_b7_r N _ hx1 _ hx2 _ hσ) (congr (congr (congrArg (Program_addMember_b7 N) rfl) rfl) rfl)
def zProgram_addMember (N : Nat) (x1 : Int) (x2 : Int) (σ : z_S) : Option (Int × z_S) := zProgram_addMember_b0 N x1 x2 σ
theorem zProgram_addMember_r (N : Nat) (x1 : Int) (hx1 : zin x1) (x2 : Int) (hx2 : zin x2) (σ : z_S) (hσ : zR σ) : zrel (zProgram_addMember N x1 x2 σ) (Program_addMember N (zI x1) (zI x2) (zo σ)) := by
  unfold zProgram_addMember Program_addMember
  exact zr_of (zProgram_addMember_b0_r N _ hx1 _ hx2 _ hσ) (congr (congr (congrArg (Program_addMember_b0 N) rfl) rfl) rfl)
def zReader_beginAlternative_b0 (N : Nat) (σ : z_S) : Option (Int × z_S) := (zProgram_addNode N 11 (-1) 0 σ).bind fun q9 => some (0, (zF (zF q9.2 15 q9.1) 16 q9.1))
theorem zReader_beginAlternative_b0_r (N : Nat) (σ : z_S) (hσ : zR σ) : zrel (zReader_beginAlternative_b0 N σ) (Reader_beginAlternative_b0 N (zo σ)) := by
  unfold zReader_beginAlternative_b0 Reader_beginAlternative_b0
  refine zr_bind (zr_of (zProgram_addNode_r N _ (by decide) _ (by decide) _ (by decide) _ hσ) (congr (congr (congr (congrArg (Program_addNode N) (zl_11)) (zl_m1)) (zl_0)) rfl)) (fun r9 s9σ hr9 hs9 => ?_)
  dsimp only
  exact zr_some (zl_0) (by decide) (zo_F (k := 16) (zo_F (k := 15) rfl rfl) rfl) (zR_F (k := 16) (zR_F (k := 15) hs9 hr9) hr9)
def zReader_beginAlternative (N : Nat) (σ : z_S) : Option (Int × z_S) := zReader_beginAlternative_b0 N σ
theorem zReader_beginAlternative_r (N : Nat) (σ : z_S) (hσ : zR σ) : zrel (zReader_beginAlternative N σ) (Reader_beginAlternative N (zo σ)) := by
  unfold zReader_beginAlternative Reader_beginAlternative
  exact zr_of (zReader_beginAlternative_b0_r N  _ hσ) (congrArg (Reader_beginAlternative_b0 N) rfl)
