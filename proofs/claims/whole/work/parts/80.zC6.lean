def zMachine_nextChoice_b82 (N : Nat) (σ : z_S) : Option (Int × z_S) := (zRows_read N 20 (σ.1 22) σ).bind fun q91 => (zRows_read N 19 (q91.2.1 22) (zF q91.2 24 q91.1)).bind fun q105 => some (q105.1, q105.2)
theorem zMachine_nextChoice_b82_r (N : Nat) (σ : z_S) (hσ : zR σ) : zrel (zMachine_nextChoice_b82 N σ) (Machine_nextChoice_b82 N (zo σ)) := by
  unfold zMachine_nextChoice_b82 Machine_nextChoice_b82
  refine zr_bind (zr_of (zRows_read_r N 20 _ (hσ.1 22) _ hσ) (congr (congrArg (Rows_read N 20) (zo_fld rfl 22)) rfl)) (fun r91 s91σ hr91 hs91 => ?_)
  dsimp only
  refine zr_bind (zr_of (zRows_read_r N 19 _ (hs91.1 22) _ (zR_F (k := 24) hs91 hr91)) (congr (congrArg (Rows_read N 19) (zo_fld rfl 22)) (zo_F (k := 24) rfl rfl))) (fun r105 s105σ hr105 hs105 => ?_)
  dsimp only
  exact zr_some rfl hr105 rfl hs105
def zMachine_nextChoice_b40 (N : Nat) (k32 : Int → z_S → Option (Int × z_S)) (x1 : Int) (σ : z_S) : Option (Int × z_S) := if zin ((σ.1 23) - 1) then (zRows_read N 22 ((σ.1 23) - 1) (zF σ 23 ((σ.1 23) - 1))).bind fun q58 => if zin ((zand q58.1 65535) - 1) then (zRows_write N 18 (zshr q58.1 16) ((zand q58.1 65535) - 1) q58.2).bind fun q76 => k32 x1 q76.2 else none else none
theorem zMachine_nextChoice_b40_r (N : Nat) (k32 : Int → z_S → Option (Int × z_S)) (k32' : Int32 → g_S → Option (Int32 × g_S)) (hk32 : ∀ (y0 : Int) (_ : zin y0) (σ : z_S), zR σ → zrel (k32 y0 σ) (k32' (zI y0) (zo σ))) (x1 : Int) (hx1 : zin x1) (σ : z_S) (hσ : zR σ) : zrel (zMachine_nextChoice_b40 N k32 x1 σ) (Machine_nextChoice_b40 N k32' (zI x1) (zo σ)) := by
  unfold zMachine_nextChoice_b40 Machine_nextChoice_b40
  refine zr_g (fun g1 => ?_)
  refine zr_bind (zr_of (zRows_read_r N 22 _ g1 _ (zR_F (k := 23) hσ g1)) (congr (congrArg (Rows_read N 22) (zI_sub (zo_fld rfl 23) (zl_1))) (zo_F (k := 23) rfl (zI_sub (zo_fld rfl 23) (zl_1))))) (fun r58 s58σ hr58 hs58 => ?_)
  dsimp only
  refine zr_g (fun g2 => ?_)
  refine zr_bind (zr_of (zRows_write_r N 18 _ (zin_toInt _) _ g2 _ hs58) (congr (congr (congrArg (Rows_write N 18) (zI_shr rfl (zl_16))) (zI_sub (zI_and rfl (zl_65535)) (zl_1))) rfl)) (fun r76 s76σ hr76 hs76 => ?_)
  dsimp only
  exact zr_of (hk32 _ hx1 _ hs76) (congr (congrArg (k32') rfl) rfl)
def zMachine_nextChoice_b32 (N : Nat) (k32 : Int → z_S → Option (Int × z_S)) (x1 : Int) (σ : z_S) : Option (Int × z_S) := if (σ.1 23) ≤ x1 then zMachine_nextChoice_b82 N σ else zMachine_nextChoice_b40 N k32 x1 σ
theorem zMachine_nextChoice_b32_r (N : Nat) (k32 : Int → z_S → Option (Int × z_S)) (k32' : Int32 → g_S → Option (Int32 × g_S)) (hk32 : ∀ (y0 : Int) (_ : zin y0) (σ : z_S), zR σ → zrel (k32 y0 σ) (k32' (zI y0) (zo σ))) (x1 : Int) (hx1 : zin x1) (σ : z_S) (hσ : zR σ) : zrel (zMachine_nextChoice_b32 N k32 x1 σ) (Machine_nextChoice_b32 N k32' (zI x1) (zo σ)) := by
  unfold zMachine_nextChoice_b32 Machine_nextChoice_b32
  refine zr_ite (zI_le (zo_fld rfl 23) rfl (hσ.1 23) hx1) ?_ ?_
  · exact zr_of (zMachine_nextChoice_b82_r N  _ hσ) (congrArg (Machine_nextChoice_b82 N) rfl)
  · exact zr_of (zMachine_nextChoice_b40_r N k32 k32' hk32 _ hx1 _ hσ) (congr (congrArg (Machine_nextChoice_b40 N k32') rfl) rfl)
def zMachine_nextChoice_l32 (N : Nat) : Nat → Int → z_S → Option (Int × z_S)
  | 0 => fun _ _ => none
  | n + 1 => fun x1 σ => zMachine_nextChoice_b32 N (zMachine_nextChoice_l32 N n) x1 σ
theorem zMachine_nextChoice_l32_r (N : Nat) (n : Nat) : ∀ (x1 : Int) (hx1 : zin x1) (σ : z_S) (_ : zR σ), zrel (zMachine_nextChoice_l32 N n x1 σ) (Machine_nextChoice_l32 N n (zI x1) (zo σ)) := by
  induction n with
  | zero => intro x1 hx1 σ hσ r s h; cases h
  | succ n ih => intro x1 hx1 σ hσ; exact zMachine_nextChoice_b32_r N _ _ (fun x1 hx1 σ hσ => ih x1 hx1 σ hσ) x1 hx1 σ hσ
def zMachine_nextChoice_b10 (N : Nat) (σ : z_S) : Option (Int × z_S) := if zin ((σ.1 22) - 1) then (zRows_read N 21 ((σ.1 22) - 1) (zF σ 22 ((σ.1 22) - 1))).bind fun q28 => zMachine_nextChoice_l32 N N q28.1 q28.2 else none
theorem zMachine_nextChoice_b10_r (N : Nat) (σ : z_S) (hσ : zR σ) : zrel (zMachine_nextChoice_b10 N σ) (Machine_nextChoice_b10 N (zo σ)) := by
  unfold zMachine_nextChoice_b10 Machine_nextChoice_b10
  refine zr_g (fun g1 => ?_)
  refine zr_bind (zr_of (zRows_read_r N 21 _ g1 _ (zR_F (k := 22) hσ g1)) (congr (congrArg (Rows_read N 21) (zI_sub (zo_fld rfl 22) (zl_1))) (zo_F (k := 22) rfl (zI_sub (zo_fld rfl 22) (zl_1))))) (fun r28 s28σ hr28 hs28 => ?_)
  dsimp only
  exact zr_of (zMachine_nextChoice_l32_r N N _ hr28 _ hs28) (congr (congrArg (Machine_nextChoice_l32 N N) rfl) rfl)
def zMachine_nextChoice_b7 (N : Nat) (σ : z_S) : Option (Int × z_S) := some ((-2), σ)
theorem zMachine_nextChoice_b7_r (N : Nat) (σ : z_S) (hσ : zR σ) : zrel (zMachine_nextChoice_b7 N σ) (Machine_nextChoice_b7 N (zo σ)) := by
  unfold zMachine_nextChoice_b7 Machine_nextChoice_b7
  exact zr_some (zl_m2) (by decide) rfl hσ
def zMachine_nextChoice_b0 (N : Nat) (σ : z_S) : Option (Int × z_S) := if (0 : Int) < (σ.1 22) then zMachine_nextChoice_b10 N σ else zMachine_nextChoice_b7 N σ
theorem zMachine_nextChoice_b0_r (N : Nat) (σ : z_S) (hσ : zR σ) : zrel (zMachine_nextChoice_b0 N σ) (Machine_nextChoice_b0 N (zo σ)) := by
  unfold zMachine_nextChoice_b0 Machine_nextChoice_b0
  refine zr_ite (zI_lt (zl_0) (zo_fld rfl 22) (by decide) (hσ.1 22)) ?_ ?_
  · exact zr_of (zMachine_nextChoice_b10_r N  _ hσ) (congrArg (Machine_nextChoice_b10 N) rfl)
  · exact zr_of (zMachine_nextChoice_b7_r N  _ hσ) (congrArg (Machine_nextChoice_b7 N) rfl)
def zMachine_nextChoice (N : Nat) (σ : z_S) : Option (Int × z_S) := zMachine_nextChoice_b0 N σ
theorem zMachine_nextChoice_r (N : Nat) (σ : z_S) (hσ : zR σ) : zrel (zMachine_nextChoice N σ) (Machine_nextChoice N (zo σ)) := by
  unfold zMachine_nextChoice Machine_nextChoice
  exact zr_of (zMachine_nextChoice_b0_r N  _ hσ) (congrArg (Machine_nextChoice_b0 N) rfl)
def zMachine_tryAt_b117 (N : Nat) (s0 : Int) (σ : z_S) : Option (Int × z_S) := some (s0, σ)
theorem zMachine_tryAt_b117_r (N : Nat) (s0 : Int) (hs0 : zin s0) (σ : z_S) (hσ : zR σ) : zrel (zMachine_tryAt_b117 N s0 σ) (Machine_tryAt_b117 N (zI s0) (zo σ)) := by
  unfold zMachine_tryAt_b117 Machine_tryAt_b117
  exact zr_some rfl hs0 rfl hσ
def zMachine_tryAt_b116 (N : Nat) (σ : z_S) : Option (Int × z_S) := zMachine_tryAt_b117 N 2 σ
theorem zMachine_tryAt_b116_r (N : Nat) (σ : z_S) (hσ : zR σ) : zrel (zMachine_tryAt_b116 N σ) (Machine_tryAt_b116 N (zo σ)) := by
  unfold zMachine_tryAt_b116 Machine_tryAt_b116
  exact zr_of (zMachine_tryAt_b117_r N _ (by decide) _ hσ) (congr (congrArg (Machine_tryAt_b117 N) (zl_2)) rfl)
def zMachine_tryAt_b112 (N : Nat) (σ : z_S) : Option (Int × z_S) := zMachine_tryAt_b117 N 0 σ
theorem zMachine_tryAt_b112_r (N : Nat) (σ : z_S) (hσ : zR σ) : zrel (zMachine_tryAt_b112 N σ) (Machine_tryAt_b112 N (zo σ)) := by
  unfold zMachine_tryAt_b112 Machine_tryAt_b112
  exact zr_of (zMachine_tryAt_b117_r N _ (by decide) _ hσ) (congr (congrArg (Machine_tryAt_b117 N) (zl_0)) rfl)
def zMachine_tryAt_b106 (N : Nat) (x2 : Int) (σ : z_S) : Option (Int × z_S) := if x2 = (-2) then zMachine_tryAt_b112 N σ else zMachine_tryAt_b116 N σ
theorem zMachine_tryAt_b106_r (N : Nat) (x2 : Int) (hx2 : zin x2) (σ : z_S) (hσ : zR σ) : zrel (zMachine_tryAt_b106 N x2 σ) (Machine_tryAt_b106 N (zI x2) (zo σ)) := by
  unfold zMachine_tryAt_b106 Machine_tryAt_b106
  refine zr_ite (zI_eq rfl (zl_m2) hx2 (by decide)) ?_ ?_
  · exact zr_of (zMachine_tryAt_b112_r N  _ hσ) (congrArg (Machine_tryAt_b112 N) rfl)
  · exact zr_of (zMachine_tryAt_b116_r N  _ hσ) (congrArg (Machine_tryAt_b116 N) rfl)
def zMachine_tryAt_b82 (N : Nat) (x1 : Int) (σ : z_S) : Option (Int × z_S) := (zRows_write N 18 0 x1 σ).bind fun q88 => (zRows_write N 18 21 (q88.2.1 24) q88.2).bind fun q101 => some (1, q101.2)
theorem zMachine_tryAt_b82_r (N : Nat) (x1 : Int) (hx1 : zin x1) (σ : z_S) (hσ : zR σ) : zrel (zMachine_tryAt_b82 N x1 σ) (Machine_tryAt_b82 N (zI x1) (zo σ)) := by
  unfold zMachine_tryAt_b82 Machine_tryAt_b82
  refine zr_bind (zr_of (zRows_write_r N 18 _ (by decide) _ hx1 _ hσ) (congr (congr (congrArg (Rows_write N 18) (zl_0)) rfl) rfl)) (fun r88 s88σ hr88 hs88 => ?_)
  dsimp only
  refine zr_bind (zr_of (zRows_write_r N 18 _ (by decide) _ (hs88.1 24) _ hs88) (congr (congr (congrArg (Rows_write N 18) (zl_21)) (zo_fld rfl 24)) rfl)) (fun r101 s101σ hr101 hs101 => ?_)
  dsimp only
  exact zr_some (zl_1) (by decide) rfl hs101
def zMachine_tryAt_b77 (N : Nat) (x1 : Int) (x2 : Int) (σ : z_S) : Option (Int × z_S) := if x2 = (-1) then zMachine_tryAt_b82 N x1 σ else zMachine_tryAt_b106 N x2 σ
theorem zMachine_tryAt_b77_r (N : Nat) (x1 : Int) (hx1 : zin x1) (x2 : Int) (hx2 : zin x2) (σ : z_S) (hσ : zR σ) : zrel (zMachine_tryAt_b77 N x1 x2 σ) (Machine_tryAt_b77 N (zI x1) (zI x2) (zo σ)) := by
  unfold zMachine_tryAt_b77 Machine_tryAt_b77
  refine zr_ite (zI_eq rfl (zl_m1) hx2 (by decide)) ?_ ?_
  · exact zr_of (zMachine_tryAt_b82_r N _ hx1 _ hσ) (congr (congrArg (Machine_tryAt_b82 N) rfl) rfl)
  · exact zr_of (zMachine_tryAt_b106_r N _ hx2 _ hσ) (congr (congrArg (Machine_tryAt_b106 N) rfl) rfl)
def zMachine_tryAt_b71 (N : Nat) (k44 : Int → Int → Int → z_S → Option (Int × z_S)) (x1 : Int) (x2 : Int) (x3 : Int) (σ : z_S) : Option (Int × z_S) := if zin (x3 + 1) then k44 x1 x2 (x3 + 1) σ else none
theorem zMachine_tryAt_b71_r (N : Nat) (k44 : Int → Int → Int → z_S → Option (Int × z_S)) (k44' : Int32 → Int32 → Int32 → g_S → Option (Int32 × g_S)) (hk44 : ∀ (y0 : Int) (_ : zin y0) (y1 : Int) (_ : zin y1) (y2 : Int) (_ : zin y2) (σ : z_S), zR σ → zrel (k44 y0 y1 y2 σ) (k44' (zI y0) (zI y1) (zI y2) (zo σ))) (x1 : Int) (hx1 : zin x1) (x2 : Int) (hx2 : zin x2) (x3 : Int) (hx3 : zin x3) (σ : z_S) (hσ : zR σ) : zrel (zMachine_tryAt_b71 N k44 x1 x2 x3 σ) (Machine_tryAt_b71 N k44' (zI x1) (zI x2) (zI x3) (zo σ)) := by
  unfold zMachine_tryAt_b71 Machine_tryAt_b71
  refine zr_g (fun g1 => ?_)
  exact zr_of (hk44 _ hx1 _ hx2 _ g1 _ hσ) (congr (congr (congr (congrArg (k44') rfl) rfl) (zI_add rfl (zl_1))) rfl)
def zMachine_tryAt_b66 (N : Nat) (k44 : Int → Int → Int → z_S → Option (Int × z_S)) (x1 : Int) (x3 : Int) (σ : z_S) : Option (Int × z_S) := (zMachine_nextChoice N σ).bind fun q67 => zMachine_tryAt_b71 N k44 x1 q67.1 x3 q67.2
theorem zMachine_tryAt_b66_r (N : Nat) (k44 : Int → Int → Int → z_S → Option (Int × z_S)) (k44' : Int32 → Int32 → Int32 → g_S → Option (Int32 × g_S)) (hk44 : ∀ (y0 : Int) (_ : zin y0) (y1 : Int) (_ : zin y1) (y2 : Int) (_ : zin y2) (σ : z_S), zR σ → zrel (k44 y0 y1 y2 σ) (k44' (zI y0) (zI y1) (zI y2) (zo σ))) (x1 : Int) (hx1 : zin x1) (x3 : Int) (hx3 : zin x3) (σ : z_S) (hσ : zR σ) : zrel (zMachine_tryAt_b66 N k44 x1 x3 σ) (Machine_tryAt_b66 N k44' (zI x1) (zI x3) (zo σ)) := by
  unfold zMachine_tryAt_b66 Machine_tryAt_b66
  refine zr_bind (zr_of (zMachine_nextChoice_r N  _ hσ) (congrArg (Machine_nextChoice N) rfl)) (fun r67 s67σ hr67 hs67 => ?_)
  dsimp only
  exact zr_of (zMachine_tryAt_b71_r N k44 k44' hk44 _ hx1 _ hr67 _ hx3 _ hs67) (congr (congr (congr (congrArg (Machine_tryAt_b71 N k44') rfl) rfl) rfl) rfl)
def zMachine_tryAt_b54 (N : Nat) (k44 : Int → Int → Int → z_S → Option (Int × z_S)) (x1 : Int) (x2 : Int) (x3 : Int) (σ : z_S) : Option (Int × z_S) := (zMachine_perform N x2 σ).bind fun q56 => if q56.1 = (-2) then zMachine_tryAt_b66 N k44 x1 x3 q56.2 else zMachine_tryAt_b71 N k44 x1 q56.1 x3 q56.2
theorem zMachine_tryAt_b54_r (N : Nat) (k44 : Int → Int → Int → z_S → Option (Int × z_S)) (k44' : Int32 → Int32 → Int32 → g_S → Option (Int32 × g_S)) (hk44 : ∀ (y0 : Int) (_ : zin y0) (y1 : Int) (_ : zin y1) (y2 : Int) (_ : zin y2) (σ : z_S), zR σ → zrel (k44 y0 y1 y2 σ) (k44' (zI y0) (zI y1) (zI y2) (zo σ))) (x1 : Int) (hx1 : zin x1) (x2 : Int) (hx2 : zin x2) (x3 : Int) (hx3 : zin x3) (σ : z_S) (hσ : zR σ) : zrel (zMachine_tryAt_b54 N k44 x1 x2 x3 σ) (Machine_tryAt_b54 N k44' (zI x1) (zI x2) (zI x3) (zo σ)) := by
  unfold zMachine_tryAt_b54 Machine_tryAt_b54
  refine zr_bind (zr_of (zMachine_perform_r N _ hx2 _ hσ) (congr (congrArg (Machine_perform N) rfl) rfl)) (fun r56 s56σ hr56 hs56 => ?_)
  dsimp only
  refine zr_ite (zI_eq rfl (zl_m2) hr56 (by decide)) ?_ ?_
  · exact zr_of (zMachine_tryAt_b66_r N k44 k44' hk44 _ hx1 _ hx3 _ hs56) (congr (congr (congrArg (Machine_tryAt_b66 N k44') rfl) rfl) rfl)
  · exact zr_of (zMachine_tryAt_b71_r N k44 k44' hk44 _ hx1 _ hr56 _ hx3 _ hs56) (congr (congr (congr (congrArg (Machine_tryAt_b71 N k44') rfl) rfl) rfl) rfl)
def zMachine_tryAt_b50 (N : Nat) (k44 : Int → Int → Int → z_S → Option (Int × z_S)) (x1 : Int) (x2 : Int) (x3 : Int) (σ : z_S) : Option (Int × z_S) := if x2 < 0 then zMachine_tryAt_b77 N x1 x2 σ else zMachine_tryAt_b54 N k44 x1 x2 x3 σ
theorem zMachine_tryAt_b50_r (N : Nat) (k44 : Int → Int → Int → z_S → Option (Int × z_S)) (k44' : Int32 → Int32 → Int32 → g_S → Option (Int32 × g_S)) (hk44 : ∀ (y0 : Int) (_ : zin y0) (y1 : Int) (_ : zin y1) (y2 : Int) (_ : zin y2) (σ : z_S), zR σ → zrel (k44 y0 y1 y2 σ) (k44' (zI y0) (zI y1) (zI y2) (zo σ))) (x1 : Int) (hx1 : zin x1) (x2 : Int) (hx2 : zin x2) (x3 : Int) (hx3 : zin x3) (σ : z_S) (hσ : zR σ) : zrel (zMachine_tryAt_b50 N k44 x1 x2 x3 σ) (Machine_tryAt_b50 N k44' (zI x1) (zI x2) (zI x3) (zo σ)) := by
  unfold zMachine_tryAt_b50 Machine_tryAt_b50
  refine zr_ite (zI_lt rfl (zl_0) hx2 (by decide)) ?_ ?_
  · exact zr_of (zMachine_tryAt_b77_r N _ hx1 _ hx2 _ hσ) (congr (congr (congrArg (Machine_tryAt_b77 N) rfl) rfl) rfl)
  · exact zr_of (zMachine_tryAt_b54_r N k44 k44' hk44 _ hx1 _ hx2 _ hx3 _ hσ) (congr (congr (congr (congrArg (Machine_tryAt_b54 N k44') rfl) rfl) rfl) rfl)
def zMachine_tryAt_b44 (N : Nat) (k44 : Int → Int → Int → z_S → Option (Int × z_S)) (x1 : Int) (x2 : Int) (x3 : Int) (σ : z_S) : Option (Int × z_S) := if (4000000 : Int) ≤ x3 then zMachine_tryAt_b77 N x1 x2 σ else zMachine_tryAt_b50 N k44 x1 x2 x3 σ
theorem zMachine_tryAt_b44_r (N : Nat) (k44 : Int → Int → Int → z_S → Option (Int × z_S)) (k44' : Int32 → Int32 → Int32 → g_S → Option (Int32 × g_S)) (hk44 : ∀ (y0 : Int) (_ : zin y0) (y1 : Int) (_ : zin y1) (y2 : Int) (_ : zin y2) (σ : z_S), zR σ → zrel (k44 y0 y1 y2 σ) (k44' (zI y0) (zI y1) (zI y2) (zo σ))) (x1 : Int) (hx1 : zin x1) (x2 : Int) (hx2 : zin x2) (x3 : Int) (hx3 : zin x3) (σ : z_S) (hσ : zR σ) : zrel (zMachine_tryAt_b44 N k44 x1 x2 x3 σ) (Machine_tryAt_b44 N k44' (zI x1) (zI x2) (zI x3) (zo σ)) := by
  unfold zMachine_tryAt_b44 Machine_tryAt_b44
  refine zr_ite (zI_le (zl_4000000) rfl (by decide) hx3) ?_ ?_
  · exact zr_of (zMachine_tryAt_b77_r N _ hx1 _ hx2 _ hσ) (congr (congr (congrArg (Machine_tryAt_b77 N) rfl) rfl) rfl)
  · exact zr_of (zMachine_tryAt_b50_r N k44 k44' hk44 _ hx1 _ hx2 _ hx3 _ hσ) (congr (congr (congr (congrArg (Machine_tryAt_b50 N k44') rfl) rfl) rfl) rfl)
def zMachine_tryAt_l44 (N : Nat) : Nat → Int → Int → Int → z_S → Option (Int × z_S)
  | 0 => fun _ _ _ _ => none
  | n + 1 => fun x1 x2 x3 σ => zMachine_tryAt_b44 N (zMachine_tryAt_l44 N n) x1 x2 x3 σ
theorem zMachine_tryAt_l44_r (N : Nat) (n : Nat) : ∀ (x1 : Int) (hx1 : zin x1) (x2 : Int) (hx2 : zin x2) (x3 : Int) (hx3 : zin x3) (σ : z_S) (_ : zR σ), zrel (zMachine_tryAt_l44 N n x1 x2 x3 σ) (Machine_tryAt_l44 N n (zI x1) (zI x2) (zI x3) (zo σ)) := by
  induction n with
  | zero => intro x1 hx1 x2 hx2 x3 hx3 σ hσ r s h; cases h
  | succ n ih => intro x1 hx1 x2 hx2 x3 hx3 σ hσ; exact zMachine_tryAt_b44_r N _ _ (fun x1 hx1 x2 hx2 x3 hx3 σ hσ => ih x1 hx1 x2 hx2 x3 hx3 σ hσ) x1 hx1 x2 hx2 x3 hx3 σ hσ
def zMachine_tryAt_b40 (N : Nat) (x1 : Int) (σ : z_S) : Option (Int × z_S) := zMachine_tryAt_l44 N N x1 1 0 σ
theorem zMachine_tryAt_b40_r (N : Nat) (x1 : Int) (hx1 : zin x1) (σ : z_S) (hσ : zR σ) : zrel (zMachine_tryAt_b40 N x1 σ) (Machine_tryAt_b40 N (zI x1) (zo σ)) := by
  unfold zMachine_tryAt_b40 Machine_tryAt_b40
  exact zr_of (zMachine_tryAt_l44_r N N _ hx1 _ (by decide) _ (by decide) _ hσ) (congr (congr (congr (congrArg (Machine_tryAt_l44 N N) rfl) (zl_1)) (zl_0)) rfl)
def zMachine_tryAt_b23 (N : Nat) (k17 : Int → Int → z_S → Option (Int × z_S)) (x1 : Int) (x2 : Int) (σ : z_S) : Option (Int × z_S) := if zin (0 + x2) then (zRows_write N 18 (0 + x2) (-1) σ).bind fun q31 => if zin (x2 + 1) then k17 x1 (x2 + 1) q31.2 else none else none
theorem zMachine_tryAt_b23_r (N : Nat) (k17 : Int → Int → z_S → Option (Int × z_S)) (k17' : Int32 → Int32 → g_S → Option (Int32 × g_S)) (hk17 : ∀ (y0 : Int) (_ : zin y0) (y1 : Int) (_ : zin y1) (σ : z_S), zR σ → zrel (k17 y0 y1 σ) (k17' (zI y0) (zI y1) (zo σ))) (x1 : Int) (hx1 : zin x1) (x2 : Int) (hx2 : zin x2) (σ : z_S) (hσ : zR σ) : zrel (zMachine_tryAt_b23 N k17 x1 x2 σ) (Machine_tryAt_b23 N k17' (zI x1) (zI x2) (zo σ)) := by
  unfold zMachine_tryAt_b23 Machine_tryAt_b23
  refine zr_g (fun g1 => ?_)
  refine zr_bind (zr_of (zRows_write_r N 18 _ g1 _ (by decide) _ hσ) (congr (congr (congrArg (Rows_write N 18) (zI_add (zl_0) rfl)) (zl_m1)) rfl)) (fun r31 s31σ hr31 hs31 => ?_)
  dsimp only
  refine zr_g (fun g2 => ?_)
  exact zr_of (hk17 _ hx1 _ g2 _ hs31) (congr (congr (congrArg (k17') rfl) (zI_add rfl (zl_1))) rfl)
def zMachine_tryAt_b17 (N : Nat) (k17 : Int → Int → z_S → Option (Int × z_S)) (x1 : Int) (x2 : Int) (σ : z_S) : Option (Int × z_S) := if (20 : Int) < x2 then zMachine_tryAt_b40 N x1 σ else zMachine_tryAt_b23 N k17 x1 x2 σ
theorem zMachine_tryAt_b17_r (N : Nat) (k17 : Int → Int → z_S → Option (Int × z_S)) (k17' : Int32 → Int32 → g_S → Option (Int32 × g_S)) (hk17 : ∀ (y0 : Int) (_ : zin y0) (y1 : Int) (_ : zin y1) (σ : z_S), zR σ → zrel (k17 y0 y1 σ) (k17' (zI y0) (zI y1) (zo σ))) (x1 : Int) (hx1 : zin x1) (x2 : Int) (hx2 : zin x2) (σ : z_S) (hσ : zR σ) : zrel (zMachine_tryAt_b17 N k17 x1 x2 σ) (Machine_tryAt_b17 N k17' (zI x1) (zI x2) (zo σ)) := by
  unfold zMachine_tryAt_b17 Machine_tryAt_b17
  refine zr_ite (zI_lt (zl_20) rfl (by decide) hx2) ?_ ?_
  · exact zr_of (zMachine_tryAt_b40_r N _ hx1 _ hσ) (congr (congrArg (Machine_tryAt_b40 N) rfl) rfl)
  · exact zr_of (zMachine_tryAt_b23_r N k17 k17' hk17 _ hx1 _ hx2 _ hσ) (congr (congr (congrArg (Machine_tryAt_b23 N k17') rfl) rfl) rfl)
def zMachine_tryAt_l17 (N : Nat) : Nat → Int → Int → z_S → Option (Int × z_S)
  | 0 => fun _ _ _ => none
  | n + 1 => fun x1 x2 σ => zMachine_tryAt_b17 N (zMachine_tryAt_l17 N n) x1 x2 σ
theorem zMachine_tryAt_l17_r (N : Nat) (n : Nat) : ∀ (x1 : Int) (hx1 : zin x1) (x2 : Int) (hx2 : zin x2) (σ : z_S) (_ : zR σ), zrel (zMachine_tryAt_l17 N n x1 x2 σ) (Machine_tryAt_l17 N n (zI x1) (zI x2) (zo σ)) := by
  induction n with
  | zero => intro x1 hx1 x2 hx2 σ hσ r s h; cases h
  | succ n ih => intro x1 hx1 x2 hx2 σ hσ; exact zMachine_tryAt_b17_r N _ _ (fun x1 hx1 x2 hx2 σ hσ => ih x1 hx1 x2 hx2 σ hσ) x1 hx1 x2 hx2 σ hσ
def zMachine_tryAt_b0 (N : Nat) (x1 : Int) (σ : z_S) : Option (Int × z_S) := zMachine_tryAt_l17 N N x1 0 (zF (zF (zF σ 24 x1) 22 0) 23 0)
theorem zMachine_tryAt_b0_r (N : Nat) (x1 : Int) (hx1 : zin x1) (σ : z_S) (hσ : zR σ) : zrel (zMachine_tryAt_b0 N x1 σ) (Machine_tryAt_b0 N (zI x1) (zo σ)) := by
  unfold zMachine_tryAt_b0 Machine_tryAt_b0
  exact zr_of (zMachine_tryAt_l17_r N N _ hx1 _ (by decide) _ (zR_F (k := 23) (zR_F (k := 22) (zR_F (k := 24) hσ hx1) (by decide)) (by decide))) (congr (congr (congrArg (Machine_tryAt_l17 N N) rfl) (zl_0)) (zo_F (k := 23) (zo_F (k := 22) (zo_F (k := 24) rfl rfl) (zl_0)) (zl_0)))
def zMachine_tryAt (N : Nat) (x1 : Int) (σ : z_S) : Option (Int × z_S) := zMachine_tryAt_b0 N x1 σ
theorem zMachine_tryAt_r (N : Nat) (x1 : Int) (hx1 : zin x1) (σ : z_S) (hσ : zR σ) : zrel (zMachine_tryAt N x1 σ) (Machine_tryAt N (zI x1) (zo σ)) := by
  unfold zMachine_tryAt Machine_tryAt
  exact zr_of (zMachine_tryAt_b0_r N _ hx1 _ hσ) (congr (congrArg (Machine_tryAt_b0 N) rfl) rfl)
