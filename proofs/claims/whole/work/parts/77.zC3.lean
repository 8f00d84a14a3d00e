def zReader_readTerm_b235 (N : Nat) (σ : z_S) : Option (Int × z_S) := some (0, σ)
theorem zReader_readTerm_b235_r (N : Nat) (σ : z_S) (hσ : zR σ) : zrel (zReader_readTerm_b235 N σ) (Reader_readTerm_b235 N (zo σ)) := by
  unfold zReader_readTerm_b235 Reader_readTerm_b235
  exact zr_some (zl_0) (by decide) rfl hσ
def zReader_readTerm_b177 (N : Nat) (σ : z_S) : Option (Int × z_S) := (zReader_addAssertion N 8 1 σ).bind fun q181 => zReader_readTerm_b235 N q181.2
theorem zReader_readTerm_b177_r (N : Nat) (σ : z_S) (hσ : zR σ) : zrel (zReader_readTerm_b177 N σ) (Reader_readTerm_b177 N (zo σ)) := by
  unfold zReader_readTerm_b177 Reader_readTerm_b177
  refine zr_bind (zr_of (zReader_addAssertion_r N _ (by decide) _ (by decide) _ hσ) (congr (congr (congrArg (Reader_addAssertion N) (zl_8)) (zl_1)) rfl)) (fun r181 s181σ hr181 hs181 => ?_)
  dsimp only
  exact zr_of (zReader_readTerm_b235_r N  _ hs181) (congrArg (Reader_readTerm_b235 N) rfl)
def zReader_readTerm_b139 (N : Nat) (σ : z_S) : Option (Int × z_S) := (zReader_readOpening N σ).bind fun q140 => zReader_readTerm_b235 N q140.2
theorem zReader_readTerm_b139_r (N : Nat) (σ : z_S) (hσ : zR σ) : zrel (zReader_readTerm_b139 N σ) (Reader_readTerm_b139 N (zo σ)) := by
  unfold zReader_readTerm_b139 Reader_readTerm_b139
  refine zr_bind (zr_of (zReader_readOpening_r N  _ hσ) (congrArg (Reader_readOpening N) rfl)) (fun r140 s140σ hr140 hs140 => ?_)
  dsimp only
  exact zr_of (zReader_readTerm_b235_r N  _ hs140) (congrArg (Reader_readTerm_b235 N) rfl)
def zReader_readTerm_b146 (N : Nat) (σ : z_S) : Option (Int × z_S) := (zReader_readClosing N σ).bind fun q147 => zReader_readTerm_b235 N q147.2
theorem zReader_readTerm_b146_r (N : Nat) (σ : z_S) (hσ : zR σ) : zrel (zReader_readTerm_b146 N σ) (Reader_readTerm_b146 N (zo σ)) := by
  unfold zReader_readTerm_b146 Reader_readTerm_b146
  refine zr_bind (zr_of (zReader_readClosing_r N  _ hσ) (congrArg (Reader_readClosing N) rfl)) (fun r147 s147σ hr147 hs147 => ?_)
  dsimp only
  exact zr_of (zReader_readTerm_b235_r N  _ hs147) (congrArg (Reader_readTerm_b235 N) rfl)
def zReader_readTerm_b207 (N : Nat) (σ : z_S) : Option (Int × z_S) := zReader_readTerm_b235 N (zF σ 13 (σ.1 12))
theorem zReader_readTerm_b207_r (N : Nat) (σ : z_S) (hσ : zR σ) : zrel (zReader_readTerm_b207 N σ) (Reader_readTerm_b207 N (zo σ)) := by
  unfold zReader_readTerm_b207 Reader_readTerm_b207
  exact zr_of (zReader_readTerm_b235_r N  _ (zR_F (k := 13) hσ (hσ.1 12))) (congrArg (Reader_readTerm_b235 N) (zo_F (k := 13) rfl (zo_fld rfl 12)))
def zReader_readTerm_b187 (N : Nat) (σ : z_S) : Option (Int × z_S) := if zin ((σ.1 12) + 1) then (zReader_addAtom N 2 0 0 (zF σ 12 ((σ.1 12) + 1))).bind fun q201 => zReader_readTerm_b235 N q201.2 else none
theorem zReader_readTerm_b187_r (N : Nat) (σ : z_S) (hσ : zR σ) : zrel (zReader_readTerm_b187 N σ) (Reader_readTerm_b187 N (zo σ)) := by
  unfold zReader_readTerm_b187 Reader_readTerm_b187
  refine zr_g (fun g1 => ?_)
  refine zr_bind (zr_of (zReader_addAtom_r N _ (by decide) _ (by decide) _ (by decide) _ (zR_F (k := 12) hσ g1)) (congr (congr (congr (congrArg (Reader_addAtom N) (zl_2)) (zl_0)) (zl_0)) (zo_F (k := 12) rfl (zI_add (zo_fld rfl 12) (zl_1))))) (fun r201 s201σ hr201 hs201 => ?_)
  dsimp only
  exact zr_of (zReader_readTerm_b235_r N  _ hs201) (congrArg (Reader_readTerm_b235 N) rfl)
def zReader_readTerm_b153 (N : Nat) (σ : z_S) : Option (Int × z_S) := (zReader_readClass N σ).bind fun q154 => zReader_readTerm_b235 N q154.2
theorem zReader_readTerm_b153_r (N : Nat) (σ : z_S) (hσ : zR σ) : zrel (zReader_readTerm_b153 N σ) (Reader_readTerm_b153 N (zo σ)) := by
  unfold zReader_readTerm_b153 Reader_readTerm_b153
  refine zr_bind (zr_of (zReader_readClass_r N  _ hσ) (congrArg (Reader_readClass N) rfl)) (fun r154 s154σ hr154 hs154 => ?_)
  dsimp only
  exact zr_of (zReader_readTerm_b235_r N  _ hs154) (congrArg (Reader_readTerm_b235 N) rfl)
def zReader_readTerm_b160 (N : Nat) (σ : z_S) : Option (Int × z_S) := (zReader_readBackslash N σ).bind fun q161 => zReader_readTerm_b235 N q161.2
theorem zReader_readTerm_b160_r (N : Nat) (σ : z_S) (hσ : zR σ) : zrel (zReader_readTerm_b160 N σ) (Reader_readTerm_b160 N (zo σ)) := by
  unfold zReader_readTerm_b160 Reader_readTerm_b160
  refine zr_bind (zr_of (zReader_readBackslash_r N  _ hσ) (congrArg (Reader_readBackslash N) rfl)) (fun r161 s161σ hr161 hs161 => ?_)
  dsimp only
  exact zr_of (zReader_readTerm_b235_r N  _ hs161) (congrArg (Reader_readTerm_b235 N) rfl)
def zReader_readTerm_b167 (N : Nat) (σ : z_S) : Option (Int × z_S) := (zReader_addAssertion N 7 1 σ).bind fun q171 => zReader_readTerm_b235 N q171.2
theorem zReader_readTerm_b167_r (N : Nat) (σ : z_S) (hσ : zR σ) : zrel (zReader_readTerm_b167 N σ) (Reader_readTerm_b167 N (zo σ)) := by
  unfold zReader_readTerm_b167 Reader_readTerm_b167
  refine zr_bind (zr_of (zReader_addAssertion_r N _ (by decide) _ (by decide) _ hσ) (congr (congr (congrArg (Reader_addAssertion N) (zl_7)) (zl_1)) rfl)) (fun r171 s171σ hr171 hs171 => ?_)
  dsimp only
  exact zr_of (zReader_readTerm_b235_r N  _ hs171) (congrArg (Reader_readTerm_b235 N) rfl)
def zReader_readTerm_b132 (N : Nat) (σ : z_S) : Option (Int × z_S) := (zReader_readBar N σ).bind fun q133 => zReader_readTerm_b235 N q133.2
theorem zReader_readTerm_b132_r (N : Nat) (σ : z_S) (hσ : zR σ) : zrel (zReader_readTerm_b132 N σ) (Reader_readTerm_b132 N (zo σ)) := by
  unfold zReader_readTerm_b132 Reader_readTerm_b132
  refine zr_bind (zr_of (zReader_readBar_r N  _ hσ) (congrArg (Reader_readBar N) rfl)) (fun r133 s133σ hr133 hs133 => ?_)
  dsimp only
  exact zr_of (zReader_readTerm_b235_r N  _ hs133) (congrArg (Reader_readTerm_b235 N) rfl)
def zReader_readTerm_b218 (N : Nat) (x1 : Int) (σ : z_S) : Option (Int × z_S) := if zin ((σ.1 12) + 1) then (zReader_addAtom N 1 x1 0 (zF σ 12 ((σ.1 12) + 1))).bind fun q232 => zReader_readTerm_b235 N q232.2 else none
theorem zReader_readTerm_b218_r (N : Nat) (x1 : Int) (hx1 : zin x1) (σ : z_S) (hσ : zR σ) : zrel (zReader_readTerm_b218 N x1 σ) (Reader_readTerm_b218 N (zI x1) (zo σ)) := by
  unfold zReader_readTerm_b218 Reader_readTerm_b218
  refine zr_g (fun g1 => ?_)
  refine zr_bind (zr_of (zReader_addAtom_r N _ (by decide) _ hx1 _ (by decide) _ (zR_F (k := 12) hσ g1)) (congr (congr (congr (congrArg (Reader_addAtom N) (zl_1)) rfl) (zl_0)) (zo_F (k := 12) rfl (zI_add (zo_fld rfl 12) (zl_1))))) (fun r232 s232σ hr232 hs232 => ?_)
  dsimp only
  exact zr_of (zReader_readTerm_b235_r N  _ hs232) (congrArg (Reader_readTerm_b235 N) rfl)
def zReader_readTerm_b0 (N : Nat) (σ : z_S) : Option (Int × z_S) := (zReader_unitAt N (σ.1 12) σ).bind fun q5 => if q5.1 = 36 then zReader_readTerm_b177 N q5.2 else if q5.1 = 40 then zReader_readTerm_b139 N q5.2 else if q5.1 = 41 then zReader_readTerm_b146 N q5.2 else if q5.1 = 42 then zReader_readTerm_b207 N q5.2 else if q5.1 = 43 then zReader_readTerm_b207 N q5.2 else if q5.1 = 46 then zReader_readTerm_b187 N q5.2 else if q5.1 = 63 then zReader_readTerm_b207 N q5.2 else if q5.1 = 91 then zReader_readTerm_b153 N q5.2 else if q5.1 = 92 then zReader_readTerm_b160 N q5.2 else if q5.1 = 93 then zReader_readTerm_b207 N q5.2 else if q5.1 = 94 then zReader_readTerm_b167 N q5.2 else if q5.1 = 123 then zReader_readTerm_b207 N q5.2 else if q5.1 = 124 then zReader_readTerm_b132 N q5.2 else if q5.1 = 125 then zReader_readTerm_b207 N q5.2 else zReader_readTerm_b218 N q5.1 q5.2
theorem zReader_readTerm_b0_r (N : Nat) (σ : z_S) (hσ : zR σ) : zrel (zReader_readTerm_b0 N σ) (Reader_readTerm_b0 N (zo σ)) := by
  unfold zReader_readTerm_b0 Reader_readTerm_b0
  refine zr_bind (zr_of (zReader_unitAt_r N _ (hσ.1 12) _ hσ) (congr (congrArg (Reader_unitAt N) (zo_fld rfl 12)) rfl)) (fun r5 s5σ hr5 hs5 => ?_)
  dsimp only
  refine zr_ite (zI_eq rfl (zl_36) hr5 (by decide)) ?_ ?_
  · exact zr_of (zReader_readTerm_b177_r N  _ hs5) (congrArg (Reader_readTerm_b177 N) rfl)
  · refine zr_ite (zI_eq rfl (zl_40) hr5 (by decide)) ?_ ?_
    · exact zr_of (zReader_readTerm_b139_r N  _ hs5) (congrArg (Reader_readTerm_b139 N) rfl)
    · refine zr_ite (zI_eq rfl (zl_41) hr5 (by decide)) ?_ ?_
      · exact zr_of (zReader_readTerm_b146_r N  _ hs5) (congrArg (Reader_readTerm_b146 N) rfl)
      · refine zr_ite (zI_eq rfl (zl_42) hr5 (by decide)) ?_ ?_
        · exact zr_of (zReader_readTerm_b207_r N  _ hs5) (congrArg (Reader_readTerm_b207 N) rfl)
        · refine zr_ite (zI_eq rfl (zl_43) hr5 (by decide)) ?_ ?_
          · exact zr_of (zReader_readTerm_b207_r N  _ hs5) (congrArg (Reader_readTerm_b207 N) rfl)
          · refine zr_ite (zI_eq rfl (zl_46) hr5 (by decide)) ?_ ?_
            · exact zr_of (zReader_readTerm_b187_r N  _ hs5) (congrArg (Reader_readTerm_b187 N) rfl)
            · refine zr_ite (zI_eq rfl (zl_63) hr5 (by decide)) ?_ ?_
              · exact zr_of (zReader_readTerm_b207_r N  _ hs5) (congrArg (Reader_readTerm_b207 N) rfl)
              · refine zr_ite (zI_eq rfl (zl_91) hr5 (by decide)) ?_ ?_
                · exact zr_of (zReader_readTerm_b153_r N  _ hs5) (congrArg (Reader_readTerm_b153 N) rfl)
                · refine zr_ite (zI_eq rfl (zl_92) hr5 (by decide)) ?_ ?_
                  · exact zr_of (zReader_readTerm_b160_r N  _ hs5) (congrArg (Reader_readTerm_b160 N) rfl)
                  · refine zr_ite (zI_eq rfl (zl_93) hr5 (by decide)) ?_ ?_
                    · exact zr_of (zReader_readTerm_b207_r N  _ hs5) (congrArg (Reader_readTerm_b207 N) rfl)
                    · refine zr_ite (zI_eq rfl (zl_94) hr5 (by decide)) ?_ ?_
                      · exact zr_of (zReader_readTerm_b167_r N  _ hs5) (congrArg (Reader_readTerm_b167 N) rfl)
                      · refine zr_ite (zI_eq rfl (zl_123) hr5 (by decide)) ?_ ?_
                        · exact zr_of (zReader_readTerm_b207_r N  _ hs5) (congrArg (Reader_readTerm_b207 N) rfl)
                        · refine zr_ite (zI_eq rfl (zl_124) hr5 (by decide)) ?_ ?_
                          · exact zr_of (zReader_readTerm_b132_r N  _ hs5) (congrArg (Reader_readTerm_b132 N) rfl)
                          · refine zr_ite (zI_eq rfl (zl_125) hr5 (by decide)) ?_ ?_
                            · exact zr_of (zReader_readTerm_b207_r N  _ hs5) (congrArg (Reader_readTerm_b207 N) rfl)
                            · exact zr_of (zReader_readTerm_b218_r N _ hr5 _ hs5) (congr (congrArg (Reader_readTerm_b218 N) rfl) rfl)
def zReader_readTerm (N : Nat) (σ : z_S) : Option (Int × z_S) := zReader_readTerm_b0 N σ
theorem zReader_readTerm_r (N : Nat) (σ : z_S) (hσ : zR σ) : zrel (zReader_readTerm N σ) (Reader_readTerm N (zo σ)) := by
  unfold zReader_readTerm Reader_readTerm
  exact zr_of (zReader_readTerm_b0_r N  _ hσ) (congrArg (Reader_readTerm_b0 N) rfl)
def zReader_takeSign_b0 (N : Nat) (x1 : Int) (x2 : Int) (σ : z_S) : Option (Int × z_S) := if zin ((σ.1 12) + 1) then some (1, (zF (zF (zF σ 17 x1) 18 x2) 12 ((σ.1 12) + 1))) else none
theorem zReader_takeSign_b0_r (N : Nat) (x1 : Int) (hx1 : zin x1) (x2 : Int) (hx2 : zin x2) (σ : z_S) (hσ : zR σ) : zrel (zReader_takeSign_b0 N x1 x2 σ) (Reader_takeSign_b0 N (zI x1) (zI x2) (zo σ)) := by
  unfold zReader_takeSign_b0 Reader_takeSign_b0
  refine zr_g (fun g1 => ?_)
  exact zr_some (zl_1) (by decide) (zo_F (k := 12) (zo_F (k := 18) (zo_F (k := 17) rfl rfl) rfl) (zI_add (zo_fld rfl 12) (zl_1))) (zR_F (k := 12) (zR_F (k := 18) (zR_F (k := 17) hσ hx1) hx2) g1)
def zReader_takeSign (N : Nat) (x1 : Int) (x2 : Int) (σ : z_S) : Option (Int × z_S) := zReader_takeSign_b0 N x1 x2 σ
theorem zReader_takeSign_r (N : Nat) (x1 : Int) (hx1 : zin x1) (x2 : Int) (hx2 : zin x2) (σ : z_S) (hσ : zR σ) : zrel (zReader_takeSign N x1 x2 σ) (Reader_takeSign N (zI x1) (zI x2) (zo σ)) := by
  unfold zReader_takeSign Reader_takeSign
  exact zr_of (zReader_takeSign_b0_r N _ hx1 _ hx2 _ hσ) (congr (congr (congrArg (Reader_takeSign_b0 N) rfl) rfl) rfl)
def zReader_isAbove_b91 (N : Nat) (σ : z_S) : Option (Int × z_S) := some (0, σ)
theorem zReader_isAbove_b91_r (N : Nat) (σ : z_S) (hσ : zR σ) : zrel (zReader_isAbove_b91 N σ) (Reader_isAbove_b91 N (zo σ)) := by
  unfold zReader_isAbove_b91 Reader_isAbove_b91
  exact zr_some (zl_0) (by decide) rfl hσ
def zReader_isAbove_b85 (N : Nat) (k12 : Int → Int → Int → Int → Int → z_S → Option (Int × z_S)) (x1 : Int) (x2 : Int) (x3 : Int) (x4 : Int) (x5 : Int) (σ : z_S) : Option (Int × z_S) := if zin (x5 + (-1)) then k12 x1 x2 x3 x4 (x5 + (-1)) σ else none
theorem zReader_isAbove_b85_r (N : Nat) (k12 : Int → Int → Int → Int → Int → z_S → Option (Int × z_S)) (k12' : Int32 → Int32 → Int32 → Int32 → Int32 → g_S → Option (Int32 × g_S)) (hk12 : ∀ (y0 : Int) (_ : zin y0) (y1 : Int) (_ : zin y1) (y2 : Int) (_ : zin y2) (y3 : Int) (_ : zin y3) (y4 : Int) (_ : zin y4) (σ : z_S), zR σ → zrel (k12 y0 y1 y2 y3 y4 σ) (k12' (zI y0) (zI y1) (zI y2) (zI y3) (zI y4) (zo σ))) (x1 : Int) (hx1 : zin x1) (x2 : Int) (hx2 : zin x2) (x3 : Int) (hx3 : zin x3) (x4 : Int) (hx4 : zin x4) (x5 : Int) (hx5 : zin x5) (σ : z_S) (hσ : zR σ) : zrel (zReader_isAbove_b85 N k12 x1 x2 x3 x4 x5 σ) (Reader_isAbove_b85 N k12' (zI x1) (zI x2) (zI x3) (zI x4) (zI x5) (zo σ)) := by
  unfold zReader_isAbove_b85 Reader_isAbove_b85
  refine zr_g (fun g1 => ?_)
  exact zr_of (hk12 _ hx1 _ hx2 _ hx3 _ hx4 _ g1 _ hσ) (congr (congr (congr (congr (congr (congrArg (k12') rfl) rfl) rfl) rfl) (zI_add rfl (zl_m1))) rfl)
def zReader_isAbove_b84 (N : Nat) (s0 : Int) (σ : z_S) : Option (Int × z_S) := if zB s0 then some (s0, σ) else none
theorem zReader_isAbove_b84_r (N : Nat) (s0 : Int) (hs0 : zin s0) (σ : z_S) (hσ : zR σ) : zrel (zReader_isAbove_b84 N s0 σ) (Reader_isAbove_b84 N (zI s0) (zo σ)) := by
  unfold zReader_isAbove_b84 Reader_isAbove_b84
  refine zr_gg (zg_B rfl) (fun g1 => ?_)
  exact zr_some rfl hs0 rfl hσ
def zReader_isAbove_b83 (N : Nat) (σ : z_S) : Option (Int × z_S) := zReader_isAbove_b84 N 0 σ
theorem zReader_isAbove_b83_r (N : Nat) (σ : z_S) (hσ : zR σ) : zrel (zReader_isAbove_b83 N σ) (Reader_isAbove_b83 N (zo σ)) := by
  unfold zReader_isAbove_b83 Reader_isAbove_b83
  exact zr_of (zReader_isAbove_b84_r N _ (by decide) _ hσ) (congr (congrArg (Reader_isAbove_b84 N) (zl_0)) rfl)
def zReader_isAbove_b79 (N : Nat) (σ : z_S) : Option (Int × z_S) := zReader_isAbove_b84 N 1 σ
theorem zReader_isAbove_b79_r (N : Nat) (σ : z_S) (hσ : zR σ) : zrel (zReader_isAbove_b79 N σ) (Reader_isAbove_b79 N (zo σ)) := by
  unfold zReader_isAbove_b79 Reader_isAbove_b79
  exact zr_of (zReader_isAbove_b84_r N _ (by decide) _ hσ) (congr (congrArg (Reader_isAbove_b84 N) (zl_1)) rfl)
def zReader_isAbove_b72 (N : Nat) (x6 : Int) (x7 : Int) (σ : z_S) : Option (Int × z_S) := if x6 ≤ x7 then zReader_isAbove_b83 N σ else zReader_isAbove_b79 N σ
theorem zReader_isAbove_b72_r (N : Nat) (x6 : Int) (hx6 : zin x6) (x7 : Int) (hx7 : zin x7) (σ : z_S) (hσ : zR σ) : zrel (zReader_isAbove_b72 N x6 x7 σ) (Reader_isAbove_b72 N (zI x6) (zI x7) (zo σ)) := by
  unfold zReader_isAbove_b72 Reader_isAbove_b72
  refine zr_ite (zI_le rfl rfl hx6 hx7) ?_ ?_
  · exact zr_of (zReader_isAbove_b83_r N  _ hσ) (congrArg (Reader_isAbove_b83 N) rfl)
  · exact zr_of (zReader_isAbove_b79_r N  _ hσ) (congrArg (Reader_isAbove_b79 N) rfl)
def zReader_isAbove_b63 (N : Nat) (k12 : Int → Int → Int → Int → Int → z_S → Option (Int × z_S)) (x1 : Int) (x2 : Int) (x3 : Int) (x4 : Int) (x5 : Int) (x6 : Int) (s0 : Int) (σ : z_S) : Option (Int × z_S) := if x6 = s0 then zReader_isAbove_b85 N k12 x1 x2 x3 x4 x5 σ else zReader_isAbove_b72 N x6 s0 σ
theorem zReader_isAbove_b63_r (N : Nat) (k12 : Int → Int → Int → Int → Int → z_S → Option (Int × z_S)) (k12' : Int32 → Int32 → Int32 → Int32 → Int32 → g_S → Option (Int32 × g_S)) (hk12 : ∀ (y0 : Int) (_ : zin y0) (y1 : Int) (_ : zin y1) (y2 : Int) (_ : zin y2) (y3 : Int) (_ : zin y3) (y4 : Int) (_ : zin y4) (σ : z_S), zR σ → zrel (k12 y0 y1 y2 y3 y4 σ) (k12' (zI y0) (zI y1) (zI y2) (zI y3) (zI y4) (zo σ))) (x1 : Int) (hx1 : zin x1) (x2 : Int) (hx2 : zin x2) (x3 : Int) (hx3 : zin x3) (x4 : Int) (hx4 : zin x4) (x5 : Int) (hx5 : zin x5) (x6 : Int) (hx6 : zin x6) (s0 : Int) (hs0 : zin s0) (σ : z_S) (hσ : zR σ) : zrel (zReader_isAbove_b63 N k12 x1 x2 x3 x4 x5 x6 s0 σ) (Reader_isAbove_b63 N k12' (zI x1) (zI x2) (zI x3) (zI x4) (zI x5) (zI x6) (zI s0) (zo σ)) := by
  unfold zReader_isAbove_b63 Reader_isAbove_b63
  refine zr_ite (zI_eq rfl rfl hx6 hs0) ?_ ?_
  · exact zr_of (zReader_isAbove_b85_r N k12 k12' hk12 _ hx1 _ hx2 _ hx3 _ hx4 _ hx5 _ hσ) (congr (congr (congr (congr (congr (congrArg (Reader_isAbove_b85 N k12') rfl) rfl) rfl) rfl) rfl) rfl)
  · exact zr_of (zReader_isAbove_b72_r N _ hx6 _ hs0 _ hσ) (congr (congr (congrArg (Reader_isAbove_b72 N) rfl) rfl) rfl)
def zReader_isAbove_b61 (N : Nat) (k12 : Int → Int → Int → Int → Int → z_S → Option (Int × z_S)) (x1 : Int) (x2 : Int) (x3 : Int) (x4 : Int) (x5 : Int) (x6 : Int) (σ : z_S) : Option (Int × z_S) := zReader_isAbove_b63 N k12 x1 x2 x3 x4 x5 x6 48 σ
theorem zReader_isAbove_b61_r (N : Nat) (k12 : Int → Int → Int → Int → Int → z_S → Option (Int × z_S)) (k12' : Int32 → Int32 → Int32 → Int32 → Int32 → g_S → Option (Int32 × g_S)) (hk12 : ∀ (y0 : Int) (_ : zin y0) (y1 : Int) (_ : zin y1) (y2 : Int) (_ : zin y2) (y3 : Int) (_ : zin y3) (y4 : Int) (_ : zin y4) (σ : z_S), zR σ → zrel (k12 y0 y1 y2 y3 y4 σ) (k12' (zI y0) (zI y1) (zI y2) (zI y3) (zI y4) (zo σ))) (x1 : Int) (hx1 : zin x1) (x2 : Int) (hx2 : zin x2) (x3 : Int) (hx3 : zin x3) (x4 : Int) (hx4 : zin x4) (x5 : Int) (hx5 : zin x5) (x6 : Int) (hx6 : zin x6) (σ : z_S) (hσ : zR σ) : zrel (zReader_isAbove_b61 N k12 x1 x2 x3 x4 x5 x6 σ) (Reader_isAbove_b61 N k12' (zI x1) (zI x2) (zI x3) (zI x4) (zI x5) (zI x6) (zo σ)) := by
  unfold zReader_isAbove_b61 Reader_isAbove_b61
  exact zr_of (zReader_isAbove_b63_r N k12 k12' hk12 _ hx1 _ hx2 _ hx3 _ hx4 _ hx5 _ hx6 _ (by decide) _ hσ) (congr (congr (congr (congr (congr (congr (congr (congrArg (Reader_isAbove_b63 N k12') rfl) rfl) rfl) rfl) rfl) rfl) (zl_48)) rfl)
def zReader_isAbove_b49 (N : Nat) (k12 : Int → Int → Int → Int → Int → z_S → Option (Int × z_S)) (x1 : Int) (x2 : Int) (x3 : Int) (x4 : Int) (x5 : Int) (x6 : Int) (σ : z_S) : Option (Int × z_S) := if zin (x4 - x5) then (zReader_unitAt N (x4 - x5) σ).bind fun q55 => zReader_isAbove_b63 N k12 x1 x2 x3 x4 x5 x6 q55.1 q55.2 else none
theorem zReader_isAbove_b49_r (N : Nat) (k12 : Int → Int → Int → Int → Int → z_S → Option (Int × z_S)) (k12' : Int32 → Int32 → Int32 → Int32 → Int32 → g_S → Option (Int32 × g_S)) (hk12 : ∀ (y0 : Int) (_ : zin y0) (y1 : Int) (_ : zin y1) (y2 : Int) (_ : zin y2) (y3 : Int) (_ : zin y3) (y4 : Int) (_ : zin y4) (σ : z_S), zR σ → zrel (k12 y0 y1 y2 y3 y4 σ) (k12' (zI y0) (zI y1) (zI y2) (zI y3) (zI y4) (zo σ))) (x1 : Int) (hx1 : zin x1) (x2 : Int) (hx2 : zin x2) (x3 : Int) (hx3 : zin x3) (x4 : Int) (hx4 : zin x4) (x5 : Int) (hx5 : zin x5) (x6 : Int) (hx6 : zin x6) (σ : z_S) (hσ : zR σ) : zrel (zReader_isAbove_b49 N k12 x1 x2 x3 x4 x5 x6 σ) (Reader_isAbove_b49 N k12' (zI x1) (zI x2) (zI x3) (zI x4) (zI x5) (zI x6) (zo σ)) := by
  unfold zReader_isAbove_b49 Reader_isAbove_b49
  refine zr_g (fun g1 => ?_)
  refine zr_bind (zr_of (zReader_unitAt_r N _ g1 _ hσ) (congr (congrArg (Reader_unitAt N) (zI_sub rfl rfl)) rfl)) (fun r55 s55σ hr55 hs55 => ?_)
  dsimp only
  exact zr_of (zReader_isAbove_b63_r N k12 k12' hk12 _ hx1 _ hx2 _ hx3 _ hx4 _ hx5 _ hx6 _ hr55 _ hs55) (congr (congr (congr (congr (congr (congr (congr (congrArg (Reader_isAbove_b63 N k12') rfl) rfl) rfl) rfl) rfl) rfl) rfl) rfl)
def zReader_isAbove_b38 (N : Nat) (k12 : Int → Int → Int → Int → Int → z_S → Option (Int × z_S)) (x1 : Int) (x2 : Int) (x3 : Int) (x4 : Int) (x5 : Int) (s0 : Int) (σ : z_S) : Option (Int × z_S) := if zin (x4 - x5) then if (x4 - x5) < x3 then zReader_isAbove_b61 N k12 x1 x2 x3 x4 x5 s0 σ else zReader_isAbove_b49 N k12 x1 x2 x3 x4 x5 s0 σ else none
theorem zReader_isAbove_b38_r (N : Nat) (k12 : Int → Int → Int → Int → Int → z_S → Option (Int × z_S)) (k12' : Int32 → Int32 → Int32 → Int32 → Int32 → g_S → Option (Int32 × g_S)) (hk12 : ∀ (y0 : Int) (_ : zin y0) (y1 : Int) (_ : zin y1) (y2 : Int) (_ : zin y2) (y3 : Int) (_ : zin y3) (y4 : Int) (_ : zin y4) (σ : z_S), zR σ → zrel (k12 y0 y1 y2 y3 y4 σ) (k12' (zI y0) (zI y1) (zI y2) (zI y3) (zI y4) (zo σ))) (x1 : Int) (hx1 : zin x1) (x2 : Int) (hx2 : zin x2) (x3 : Int) (hx3 : zin x3) (x4 : Int) (hx4 : zin x4) (x5 : Int) (hx5 : zin x5) (s0 : Int) (hs0 : zin s0) (σ : z_S) (hσ : zR σ) : zrel (zReader_isAbove_b38 N k12 x1 x2 x3 x4 x5 s0 σ) (Reader_isAbove_b38 N k12' (zI x1) (zI x2) (zI x3) (zI x4) (zI x5) (zI s0) (zo σ)) := by
  unfold zReader_isAbove_b38 Reader_isAbove_b38
  refine zr_g (fun g1 => ?_)
  refine zr_ite (zI_lt (zI_sub rfl rfl) rfl g1 hx3) ?_ ?_
  · exact zr_of (zReader_isAbove_b61_r N k12 k12' hk12 _ hx1 _ hx2 _ hx3 _ hx4 _ hx5 _ hs0 _ hσ) (congr (congr (congr (congr (congr (congr (congrArg (Reader_isAbove_b61 N k12') rfl) rfl) rfl) rfl) rfl) rfl) rfl)
  · exact zr_of (zReader_isAbove_b49_r N k12 k12' hk12 _ hx1 _ hx2 _ hx3 _ hx4 _ hx5 _ hs0 _ hσ) (congr (congr (congr (congr (congr (congr (congrArg (Reader_isAbove_b49 N k12') rfl) rfl) rfl) rfl) rfl) rfl) rfl)
def zReader_isAbove_b36 (N : Nat) (k12 : Int → Int → Int → Int → Int → z_S → Option (Int × z_S)) (x1 : Int) (x2 : Int) (x3 : Int) (x4 : Int) (x5 : Int) (σ : z_S) : Option (Int × z_S) := zReader_isAbove_b38 N k12 x1 x2 x3 x4 x5 48 σ
theorem zReader_isAbove_b36_r (N : Nat) (k12 : Int → Int → Int → Int → Int → z_S → Option (Int × z_S)) (k12' : Int32 → Int32 → Int32 → Int32 → Int32 → g_S → Option (Int32 × g_S)) (hk12 : ∀ (y0 : Int) (_ : zin y0) (y1 : Int) (_ : zin y1) (y2 : Int) (_ : zin y2) (y3 : Int) (_ : zin y3) (y4 : Int) (_ : zin y4) (σ : z_S), zR σ → zrel (k12 y0 y1 y2 y3 y4 σ) (k12' (zI y0) (zI y1) (zI y2) (zI y3) (zI y4) (zo σ))) (x1 : Int) (hx1 : zin x1) (x2 : Int) (hx2 : zin x2) (x3 : Int) (hx3 : zin x3) (x4 : Int) (hx4 : zin x4) (x5 : Int) (hx5 : zin x5) (σ : z_S) (hσ : zR σ) : zrel (zReader_isAbove_b36 N k12 x1 x2 x3 x4 x5 σ) (Reader_isAbove_b36 N k12' (zI x1) (zI x2) (zI x3) (zI x4) (zI x5) (zo σ)) := by
  unfold zReader_isAbove_b36 Reader_isAbove_b36
  exact zr_of (zReader_isAbove_b38_r N k12 k12' hk12 _ hx1 _ hx2 _ hx3 _ hx4 _ hx5 _ (by decide) _ hσ) (congr (congr (congr (congr (congr (congr (congrArg (Reader_isAbove_b38 N k12') rfl) rfl) rfl) rfl) rfl) (zl_48)) rfl)
def zReader_isAbove_b25 (N : Nat) (k12 : Int → Int → Int → Int → Int → z_S → Option (Int × z_S)) (x1 : Int) (x2 : Int) (x3 : Int) (x4 : Int) (x5 : Int) (σ : z_S) : Option (Int × z_S) := if zin (x2 - x5) then (zReader_unitAt N (x2 - x5) σ).bind fun q30 => zReader_isAbove_b38 N k12 x1 x2 x3 x4 x5 q30.1 q30.2 else none
theorem zReader_isAbove_b25_r (N : Nat) (k12 : Int → Int → Int → Int → Int → z_S → Option (Int × z_S)) (k12' : Int32 → Int32 → Int32 → Int32 → Int32 → g_S → Option (Int32 × g_S)) (hk12 : ∀ (y0 : Int) (_ : zin y0) (y1 : Int) (_ : zin y1) (y2 : Int) (_ : zin y2) (y3 : Int) (_ : zin y3) (y4 : Int) (_ : zin y4) (σ : z_S), zR σ → zrel (k12 y0 y1 y2 y3 y4 σ) (k12' (zI y0) (zI y1) (zI y2) (zI y3) (zI y4) (zo σ))) (x1 : Int) (hx1 : zin x1) (x2 : Int) (hx2 : zin x2) (x3 : Int) (hx3 : zin x3) (x4 : Int) (hx4 : zin x4) (x5 : Int) (hx5 : zin x5) (σ : z_S) (hσ : zR σ) : zrel (zReader_isAbove_b25 N k12 x1 x2 x3 x4 x5 σ) (Reader_isAbove_b25 N k12' (zI x1) (zI x2) (zI x3) (zI x4) (zI x5) (zo σ)) := by
  unfold zReader_isAbove_b25 Reader_isAbove_b25
  refine zr_g (fun g1 => ?_)
  refine zr_bind (zr_of (zReader_unitAt_r N _ g1 _ hσ) (congr (congrArg (Reader_unitAt N) (zI_sub rfl rfl)) rfl)) (fun r30 s30σ hr30 hs30 => ?_)
  dsimp only
  exact zr_of (zReader_isAbove_b38_r N k12 k12' hk12 _ hx1 _ hx2 _ hx3 _ hx4 _ hx5 _ hr30 _ hs30) (congr (congr (congr (congr (congr (congr (congrArg (Reader_isAbove_b38 N k12') rfl) rfl) rfl) rfl) rfl) rfl) rfl)
def zReader_isAbove_b17 (N : Nat) (k12 : Int → Int → Int → Int → Int → z_S → Option (Int × z_S)) (x1 : Int) (x2 : Int) (x3 : Int) (x4 : Int) (x5 : Int) (σ : z_S) : Option (Int × z_S) := if zin (x2 - x5) then if (x2 - x5) < x1 then zReader_isAbove_b36 N k12 x1 x2 x3 x4 x5 σ else zReader_isAbove_b25 N k12 x1 x2 x3 x4 x5 σ else none
theorem zReader_isAbove_b17_r (N : Nat) (k12 : Int → Int → Int → Int → Int → z_S → Option (Int × z_S)) (k12' : Int32 → Int32 → Int32 → Int32 → Int32 → g_S → Option (Int32 × g_S)) (hk12 : ∀ (y0 : Int) (_ : zin y0) (y1 : Int) (_ : zin y1) (y2 : Int) (_ : zin y2) (y3 : Int) (_ : zin y3) (y4 : Int) (_ : zin y4) (σ : z_S), zR σ → zrel (k12 y0 y1 y2 y3 y4 σ) (k12' (zI y0) (zI y1) (zI y2) (zI y3) (zI y4) (zo σ))) (x1 : Int) (hx1 : zin x1) (x2 : Int) (hx2 : zin x2) (x3 : Int) (hx3 : zin x3) (x4 : Int) (hx4 : zin x4) (x5 : Int) (hx5 : zin x5) (σ : z_S) (hσ : zR σ) : zrel (zReader_isAbove_b17 N k12 x1 x2 x3 x4 x5 σ) (Reader_isAbove_b17 N k12' (zI x1) (zI x2) (zI x3) (zI x4) (zI x5) (zo σ)) := by
  unfold zReader_isAbove_b17 Reader_isAbove_b17
  refine zr_g (fun g1 => ?_)
  refine zr_ite (zI_lt (zI_sub rfl rfl) rfl g1 hx1) ?_ ?_
  · exact zr_of (zReader_isAbove_b36_r N k12 k12' hk12 _ hx1 _ hx2 _ hx3 _ hx4 _ hx5 _ hσ) (congr (congr (congr (congr (congr (congrArg (Reader_isAbove_b36 N k12') rfl) rfl) rfl) rfl) rfl) rfl)
  · exact zr_of (zReader_isAbove_b25_r N k12 k12' hk12 _ hx1 _ hx2 _ hx3 _ hx4 _ hx5 _ hσ) (congr (congr (congr (congr (congr (congrArg (Reader_isAbove_b25 N k12') rfl) rfl) rfl) rfl) rfl) rfl)
def zReader_isAbove_b12 (N : Nat) (k12 : Int → Int → Int → Int → Int → z_S → Option (Int × z_S)) (x1 : Int) (x2 : Int) (x3 : Int) (x4 : Int) (x5 : Int) (σ : z_S) : Option (Int × z_S) := if x5 ≤ 0 then zReader_isAbove_b91 N σ else zReader_isAbove_b17 N k12 x1 x2 x3 x4 x5 σ
theorem zReader_isAbove_b12_r (N : Nat) (k12 : Int → Int → Int → Int → Int → z_S → Option (Int × z_S)) (k12' : Int32 → Int32 → Int32 → Int32 → Int32 → g_S → Option (Int32 × g_S)) (hk12 : ∀ (y0 : Int) (_ : zin y0) (y1 : Int) (_ : zin y1) (y2 : Int) (_ : zin y2) (y3 : Int) (_ : zin y3) (y4 : Int) (_ : zin y4) (σ : z_S), zR σ → zrel (k12 y0 y1 y2 y3 y4 σ) (k12' (zI y0) (zI y1) (zI y2) (zI y3) (zI y4) (zo σ))) (x1 : Int) (hx1 : zin x1) (x2 : Int) (hx2 : zin x2) (x3 : Int) (hx3 : zin x3) (x4 : Int) (hx4 : zin x4) (x5 : Int) (hx5 : zin x5) (σ : z_S) (hσ : zR σ) : zrel (zReader_isAbove_b12 N k12 x1 x2 x3 x4 x5 σ) (Reader_isAbove_b12 N k12' (zI x1) (zI x2) (zI x3) (zI x4) (zI x5) (zo σ)) := by
  unfold zReader_isAbove_b12 Reader_isAbove_b12
  refine zr_ite (zI_le rfl (zl_0) hx5 (by decide)) ?_ ?_
  · exact zr_of (zReader_isAbove_b91_r N  _ hσ) (congrArg (Reader_isAbove_b91 N) rfl)
  · exact zr_of (zReader_isAbove_b17_r N k12 k12' hk12 _ hx1 _ hx2 _ hx3 _ hx4 _ hx5 _ hσ) (congr (congr (congr (congr (congr (congrArg (Reader_isAbove_b17 N k12') rfl) rfl) rfl) rfl) rfl) rfl)
def zReader_isAbove_l12 (N : Nat) : Nat → Int → Int → Int → Int → Int → z_S → Option (Int × z_S)
  | 0 => fun _ _ _ _ _ _ => none
  | n + 1 => fun x1 x2 x3 x4 x5 σ => zReader_isAbove_b12 N (zReader_isAbove_l12 N n) x1 x2 x3 x4 x5 σ
theorem zReader_isAbove_l12_r (N : Nat) (n : Nat) : ∀ (x1 : Int) (hx1 : zin x1) (x2 : Int) (hx2 : zin x2) (x3 : Int) (hx3 : zin x3) (x4 : Int) (hx4 : zin x4) (x5 : Int) (hx5 : zin x5) (σ : z_S) (_ : zR σ), zrel (zReader_isAbove_l12 N n x1 x2 x3 x4 x5 σ) (Reader_isAbove_l12 N n (zI x1) (zI x2) (zI x3) (zI x4) (zI x5) (zo σ)) := by
  induction n with
  | zero => intro x1 hx1 x2 hx2 x3 hx3 x4 hx4 x5 hx5 σ hσ r s h; cases h
  | succ n ih => intro x1 hx1 x2 hx2 x3 hx3 x4 hx4 x5 hx5 σ hσ; exact zReader_isAbove_b12_r N _ _ (fun x1 hx1 x2 hx2 x3 hx3 x4 hx4 x5 hx5 σ hσ => ih x1 hx1 x2 hx2 x3 hx3 x4 hx4 x5 hx5 σ hσ) x1 hx1 x2 hx2 x3 hx3 x4 hx4 x5 hx5 σ hσ
def zReader_isAbove_b0 (N : Nat) (x1 : Int) (x2 : Int) (x3 : Int) (x4 : Int) (σ : z_S) : Option (Int × z_S) := if zin (x2 - x1) then if zin (x4 - x3) then zReader_isAbove_l12 N N x1 x2 x3 x4 (if (x2 - x1) < (x4 - x3) then (x4 - x3) else (x2 - x1)) σ else none else none
theorem zReader_isAbove_b0_r (N : Nat) (x1 : Int) (hx1 : zin x1) (x2 : Int) (hx2 : zin x2) (x3 : Int) (hx3 : zin x3) (x4 : Int) (hx4 : zin x4) (σ : z_S) (hσ : zR σ) : zrel (zReader_isAbove_b0 N x1 x2 x3 x4 σ) (Reader_isAbove_b0 N (zI x1) (zI x2) (zI x3) (zI x4) (zo σ)) := by
  unfold zReader_isAbove_b0 Reader_isAbove_b0
  refine zr_g (fun g1 => ?_)
  refine zr_g (fun g2 => ?_)
  exact zr_of (zReader_isAbove_l12_r N N _ hx1 _ hx2 _ hx3 _ hx4 _ (zin_ite g2 g1) _ hσ) (congr (congr (congr (congr (congr (congrArg (Reader_isAbove_l12 N N) rfl) rfl) rfl) rfl) (zI_ite (zI_sub rfl rfl) (zI_sub rfl rfl) g1 g2 (zI_sub rfl rfl) (zI_sub rfl rfl))) rfl)
def zReader_isAbove (N : Nat) (x1 : Int) (x2 : Int) (x3 : Int) (x4 : Int) (σ : z_S) : Option (Int × z_S) := zReader_isAbove_b0 N x1 x2 x3 x4 σ
theorem zReader_isAbove_r (N : Nat) (x1 : Int) (hx1 : zin x1) (x2 : Int) (hx2 : zin x2) (x3 : Int) (hx3 : zin x3) (x4 : Int) (hx4 : zin x4) (σ : z_S) (hσ : zR σ) : zrel (zReader_isAbove N x1 x2 x3 x4 σ) (Reader_isAbove N (zI x1) (zI x2) (zI x3) (zI x4) (zo σ)) := by
  unfold zReader_isAbove Reader_isAbove
  exact zr_of (zReader_isAbove_b0_r N _ hx1 _ hx2 _ hx3 _ hx4 _ hσ) (congr (congr (congr (congr (congrArg (Reader_isAbove_b0 N) rfl) rfl) rfl) rfl) rfl)
def zReader_readBraces_b179 (N : Nat) (σ : z_S) : Option (Int × z_S) := some (0, σ)
theorem zReader_readBraces_b179_r (N : Nat) (σ : z_S) (hσ : zR σ) : zrel (zReader_readBraces_b179 N σ) (Reader_readBraces_b179 N (zo σ)) := by
  unfold zReader_readBraces_b179 Reader_readBraces_b179
  exact zr_some (zl_0) (by decide) rfl hσ
def zReader_readBraces_b169 (N : Nat) (σ : z_S) : Option (Int × z_S) := if zin ((σ.1 12) + 1) then zReader_readBraces_b179 N (zF σ 12 ((σ.1 12) + 1)) else none
theorem zReader_readBraces_b169_r (N : Nat) (σ : z_S) (hσ : zR σ) : zrel (zReader_readBraces_b169 N σ) (Reader_readBraces_b169 N (zo σ)) := by
  unfold zReader_readBraces_b169 Reader_readBraces_b169
  refine zr_g (fun g1 => ?_)
  exact zr_of (zReader_readBraces_b179_r N  _ (zR_F (k := 12) hσ g1)) (congrArg (Reader_readBraces_b179 N) (zo_F (k := 12) rfl (zI_add (zo_fld rfl 12) (zl_1))))
def zReader_readBraces_b161 (N : Nat) (x1 : Int) (σ : z_S) : Option (Int × z_S) := zReader_readBraces_b179 N (zF σ 13 x1)
theorem zReader_readBraces_b161_r (N : Nat) (x1 : Int) (hx1 : zin x1) (σ : z_S) (hσ : zR σ) : zrel (zReader_readBraces_b161 N x1 σ) (Reader_readBraces_b161 N (zI x1) (zo σ)) := by
  unfold zReader_readBraces_b161 Reader_readBraces_b161
  exact zr_of (zReader_readBraces_b179_r N  _ (zR_F (k := 13) hσ hx1)) (congrArg (Reader_readBraces_b179 N) (zo_F (k := 13) rfl rfl))
def zReader_readBraces_b156 (N : Nat) (x1 : Int) (x4 : Int) (σ : z_S) : Option (Int × z_S) := if x4 = 0 then zReader_readBraces_b169 N σ else zReader_readBraces_b161 N x1 σ
theorem zReader_readBraces_b156_r (N : Nat) (x1 : Int) (hx1 : zin x1) (x4 : Int) (hx4 : zin x4) (σ : z_S) (hσ : zR σ) : zrel (zReader_readBraces_b156 N x1 x4 σ) (Reader_readBraces_b156 N (zI x1) (zI x4) (zo σ)) := by
  unfold zReader_readBraces_b156 Reader_readBraces_b156
  refine zr_ite (zI_eq rfl (zl_0) hx4 (by decide)) ?_ ?_
  · exact zr_of (zReader_readBraces_b169_r N  _ hσ) (congrArg (Reader_readBraces_b169 N) rfl)
  · exact zr_of (zReader_readBraces_b161_r N _ hx1 _ hσ) (congr (congrArg (Reader_readBraces_b161 N) rfl) rfl)
def zReader_readBraces_b145 (N : Nat) (σ : z_S) : Option (Int × z_S) := zReader_readBraces_b179 N (zF σ 13 (σ.1 12))
theorem zReader_readBraces_b145_r (N : Nat) (σ : z_S) (hσ : zR σ) : zrel (zReader_readBraces_b145 N σ) (Reader_readBraces_b145 N (zo σ)) := by
  unfold zReader_readBraces_b145 Reader_readBraces_b145
  exact zr_of (zReader_readBraces_b179_r N  _ (zR_F (k := 13) hσ (hσ.1 12))) (congrArg (Reader_readBraces_b179 N) (zo_F (k := 13) rfl (zo_fld rfl 12)))
def zReader_readBraces_b132 (N : Nat) (x1 : Int) (x4 : Int) (σ : z_S) : Option (Int × z_S) := (zReader_unitAt N (σ.1 12) σ).bind fun q137 => if q137.1 = 125 then zReader_readBraces_b156 N x1 x4 q137.2 else zReader_readBraces_b145 N q137.2
theorem zReader_readBraces_b132_r (N : Nat) (x1 : Int) (hx1 : zin x1) (x4 : Int) (hx4 : zin x4) (σ : z_S) (hσ : zR σ) : zrel (zReader_readBraces_b132 N x1 x4 σ) (Reader_readBraces_b132 N (zI x1) (zI x4) (zo σ)) := by
  unfold zReader_readBraces_b132 Reader_readBraces_b132
  refine zr_bind (zr_of (zReader_unitAt_r N _ (hσ.1 12) _ hσ) (congr (congrArg (Reader_unitAt N) (zo_fld rfl 12)) rfl)) (fun r137 s137σ hr137 hs137 => ?_)
  dsimp only
  refine zr_ite (zI_eq rfl (zl_125) hr137 (by decide)) ?_ ?_
  · exact zr_of (zReader_readBraces_b156_r N _ hx1 _ hx4 _ hs137) (congr (congr (congrArg (Reader_readBraces_b156 N) rfl) rfl) rfl)
  · exact zr_of (zReader_readBraces_b145_r N  _ hs137) (congrArg (Reader_readBraces_b145 N) rfl)
def zReader_readBraces_b131 (N : Nat) (σ : z_S) : Option (Int × z_S) := some (0, σ)
theorem zReader_readBraces_b131_r (N : Nat) (σ : z_S) (hσ : zR σ) : zrel (zReader_readBraces_b131 N σ) (Reader_readBraces_b131 N (zo σ)) := by
  unfold zReader_readBraces_b131 Reader_readBraces_b131
  exact zr_some (zl_0) (by decide) rfl hσ
def zReader_readBraces_b124 (N : Nat) (x1 : Int) (x4 : Int) (σ : z_S) : Option (Int × z_S) := if (σ.1 13) < 0 then zReader_readBraces_b132 N x1 x4 σ else zReader_readBraces_b131 N σ
theorem zReader_readBraces_b124_r (N : Nat) (x1 : Int) (hx1 : zin x1) (x4 : Int) (hx4 : zin x4) (σ : z_S) (hσ : zR σ) : zrel (zReader_readBraces_b124 N x1 x4 σ) (Reader_readBraces_b124 N (zI x1) (zI x4) (zo σ)) := by
  unfold zReader_readBraces_b124 Reader_readBraces_b124
  refine zr_ite (zI_lt (zo_fld rfl 13) (zl_0) (hσ.1 13) (by decide)) ?_ ?_
  · exact zr_of (zReader_readBraces_b132_r N _ hx1 _ hx4 _ hσ) (congr (congr (congrArg (Reader_readBraces_b132 N) rfl) rfl) rfl)
  · exact zr_of (zReader_readBraces_b131_r N  _ hσ) (congrArg (Reader_readBraces_b131 N) rfl)
def zReader_readBraces_b96 (N : Nat) (x1 : Int) (x2 : Int) (x3 : Int) (σ : z_S) : Option (Int × z_S) := (zReader_readNumber N σ).bind fun q104 => (zReader_isAbove N x2 x3 (σ.1 12) (q104.2.1 12) (zF q104.2 18 q104.1)).bind fun q119 => zReader_readBraces_b124 N x1 q119.1 q119.2
theorem zReader_readBraces_b96_r (N : Nat) (x1 : Int) (hx1 : zin x1) (x2 : Int) (hx2 : zin x2) (x3 : Int) (hx3 : zin x3) (σ : z_S) (hσ : zR σ) : zrel (zReader_readBraces_b96 N x1 x2 x3 σ) (Reader_readBraces_b96 N (zI x1) (zI x2) (zI x3) (zo σ)) := by
  unfold zReader_readBraces_b96 Reader_readBraces_b96
  refine zr_bind (zr_of (zReader_readNumber_r N  _ hσ) (congrArg (Reader_readNumber N) rfl)) (fun r104 s104σ hr104 hs104 => ?_)
  dsimp only
  refine zr_bind (zr_of (zReader_isAbove_r N _ hx2 _ hx3 _ (hσ.1 12) _ (hs104.1 12) _ (zR_F (k := 18) hs104 hr104)) (congr (congr (congr (congr (congrArg (Reader_isAbove N) rfl) rfl) (zo_fld rfl 12)) (zo_fld rfl 12)) (zo_F (k := 18) rfl rfl))) (fun r119 s119σ hr119 hs119 => ?_)
  dsimp only
  exact zr_of (zReader_readBraces_b124_r N _ hx1 _ hr119 _ hs119) (congr (congr (congrArg (Reader_readBraces_b124 N) rfl) rfl) rfl)
def zReader_readBraces_b87 (N : Nat) (x1 : Int) (x4 : Int) (σ : z_S) : Option (Int × z_S) := zReader_readBraces_b124 N x1 x4 (zF σ 18 100000)
theorem zReader_readBraces_b87_r (N : Nat) (x1 : Int) (hx1 : zin x1) (x4 : Int) (hx4 : zin x4) (σ : z_S) (hσ : zR σ) : zrel (zReader_readBraces_b87 N x1 x4 σ) (Reader_readBraces_b87 N (zI x1) (zI x4) (zo σ)) := by
  unfold zReader_readBraces_b87 Reader_readBraces_b87
  exact zr_of (zReader_readBraces_b124_r N _ hx1 _ hx4 _ (zR_F (k := 18) hσ (by decide))) (congr (congr (congrArg (Reader_readBraces_b124 N) rfl) rfl) (zo_F (k := 18) rfl (zl_100000)))
def zReader_readBraces_b64 (N : Nat) (x1 : Int) (x2 : Int) (x3 : Int) (x4 : Int) (σ : z_S) : Option (Int × z_S) := if zin ((σ.1 12) + 1) then (zReader_unitAt N ((σ.1 12) + 1) (zF σ 12 ((σ.1 12) + 1))).bind fun q79 => if q79.1 = 125 then zReader_readBraces_b87 N x1 x4 q79.2 else zReader_readBraces_b96 N x1 x2 x3 q79.2 else none
theorem zReader_readBraces_b64_r (N : Nat) (x1 : Int) (hx1 : zin x1) (x2 : Int) (hx2 : zin x2) (x3 : Int) (hx3 : zin x3) (x4 : Int) (hx4 : zin x4) (σ : z_S) (hσ : zR σ) : zrel (zReader_readBraces_b64 N x1 x2 x3 x4 σ) (Reader_readBraces_b64 N (zI x1) (zI x2) (zI x3) (zI x4) (zo σ)) := by
  unfold zReader_readBraces_b64 Reader_readBraces_b64
  refine zr_g (fun g1 => ?_)
  refine zr_bind (zr_of (zReader_unitAt_r N _ g1 _ (zR_F (k := 12) hσ g1)) (congr (congrArg (Reader_unitAt N) (zI_add (zo_fld rfl 12) (zl_1))) (zo_F (k := 12) rfl (zI_add (zo_fld rfl 12) (zl_1))))) (fun r79 s79σ hr79 hs79 => ?_)
  dsimp only
  refine zr_ite (zI_eq rfl (zl_125) hr79 (by decide)) ?_ ?_
  · exact zr_of (zReader_readBraces_b87_r N _ hx1 _ hx4 _ hs79) (congr (congr (congrArg (Reader_readBraces_b87 N) rfl) rfl) rfl)
  · exact zr_of (zReader_readBraces_b96_r N _ hx1 _ hx2 _ hx3 _ hs79) (congr (congr (congr (congrArg (Reader_readBraces_b96 N) rfl) rfl) rfl) rfl)
def zReader_readBraces_b51 (N : Nat) (x1 : Int) (x2 : Int) (x3 : Int) (x4 : Int) (σ : z_S) : Option (Int × z_S) := (zReader_unitAt N (σ.1 12) σ).bind fun q56 => if q56.1 = 44 then zReader_readBraces_b64 N x1 x2 x3 x4 q56.2 else zReader_readBraces_b124 N x1 x4 q56.2
theorem zReader_readBraces_b51_r (N : Nat) (x1 : Int) (hx1 : zin x1) (x2 : Int) (hx2 : zin x2) (x3 : Int) (hx3 : zin x3) (x4 : Int) (hx4 : zin x4) (σ : z_S) (hσ : zR σ) : zrel (zReader_readBraces_b51 N x1 x2 x3 x4 σ) (Reader_readBraces_b51 N (zI x1) (zI x2) (zI x3) (zI x4) (zo σ)) := by
  unfold zReader_readBraces_b51 Reader_readBraces_b51
  refine zr_bind (zr_of (zReader_unitAt_r N _ (hσ.1 12) _ hσ) (congr (congrArg (Reader_unitAt N) (zo_fld rfl 12)) rfl)) (fun r56 s56σ hr56 hs56 => ?_)
  dsimp only
  refine zr_ite (zI_eq rfl (zl_44) hr56 (by decide)) ?_ ?_
  · exact zr_of (zReader_readBraces_b64_r N _ hx1 _ hx2 _ hx3 _ hx4 _ hs56) (congr (congr (congr (congr (congrArg (Reader_readBraces_b64 N) rfl) rfl) rfl) rfl) rfl)
  · exact zr_of (zReader_readBraces_b124_r N _ hx1 _ hx4 _ hs56) (congr (congr (congrArg (Reader_readBraces_b124 N) rfl) rfl) rfl)
def zReader_readBraces_b0 (N : Nat) (σ : z_S) : Option (Int × z_S) := if zin ((σ.1 12) + 1) then (zReader_readNumber N (zF σ 12 ((σ.1 12) + 1))).bind fun q22 => if (0 : Int) ≤ (q22.2.1 13) then zReader_readBraces_b124 N (σ.1 12) 0 (zF (zF q22.2 17 q22.1) 18 q22.1) else zReader_readBraces_b51 N (σ.1 12) ((σ.1 12) + 1) (q22.2.1 12) 0 (zF (zF q22.2 17 q22.1) 18 q22.1) else none
theorem zReader_readBraces_b0_r (N : Nat) (σ : z_S) (hσ : zR σ) : zrel (zReader_readBraces_b0 N σ) (Reader_readBraces_b0 N (zo σ)) := by
  unfold zReader_readBraces_b0 Reader_readBraces_b0
  refine zr_g (fun g1 => ?_)
  refine zr_bind (zr_of (zReader_readNumber_r N  _ (zR_F (k := 12) hσ g1)) (congrArg (Reader_readNumber N) (zo_F (k := 12) rfl (zI_add (zo_fld rfl 12) (zl_1))))) (fun r22 s22σ hr22 hs22 => ?_)
  dsimp only
  refine zr_ite (zI_le (zl_0) (zo_fld rfl 13) (by decide) (hs22.1 13)) ?_ ?_
  · exact zr_of (zReader_readBraces_b124_r N _ (hσ.1 12) _ (by decide) _ (zR_F (k := 18) (zR_F (k := 17) hs22 hr22) hr22)) (congr (congr (congrArg (Reader_readBraces_b124 N) (zo_fld rfl 12)) (zl_0)) (zo_F (k := 18) (zo_F (k := 17) rfl rfl) rfl))
  · exact zr_of (zReader_readBraces_b51_r N _ (hσ.1 12) _ g1 _ (hs22.1 12) _ (by decide) _ (zR_F (k := 18) (zR_F (k := 17) hs22 hr22) hr22)) (congr (congr (congr (congr (congrArg (Reader_readBraces_b51 N) (zo_fld rfl 12)) (zI_add (zo_fld rfl 12) (zl_1))) (zo_fld rfl 12)) (zl_0)) (zo_F (k := 18) (zo_F (k := 17) rfl rfl) rfl))
def zReader_readBraces (N : Nat) (σ : z_S) : Option (Int × z_S) := zReader_readBraces_b0 N σ
theorem zReader_readBraces_r (N : Nat) (σ : z_S) (hσ : zR σ) : zrel (zReader_readBraces N σ) (Reader_readBraces N (zo σ)) := by
  unfold zReader_readBraces Reader_readBraces
  exact zr_of (zReader_readBraces_b0_r N  _ hσ) (congrArg (Reader_readBraces_b0 N) rfl)
def zReader_readQuantifier_b52 (N : Nat) (σ : z_S) : Option (Int × z_S) := (zReader_takeSign N 0 100000 σ).bind fun q56 => if zB q56.1 then some (q56.1, q56.2) else none
theorem zReader_readQuantifier_b52_r (N : Nat) (σ : z_S) (hσ : zR σ) : zrel (zReader_readQuantifier_b52 N σ) (Reader_readQuantifier_b52 N (zo σ)) := by
  unfold zReader_readQuantifier_b52 Reader_readQuantifier_b52
  refine zr_bind (zr_of (zReader_takeSign_r N _ (by decide) _ (by decide) _ hσ) (congr (congr (congrArg (Reader_takeSign N) (zl_0)) (zl_100000)) rfl)) (fun r56 s56σ hr56 hs56 => ?_)
  dsimp only
  refine zr_gg (zg_B rfl) (fun g1 => ?_)
  exact zr_some rfl hr56 rfl hs56
def zReader_readQuantifier_b60 (N : Nat) (σ : z_S) : Option (Int × z_S) := (zReader_takeSign N 1 100000 σ).bind fun q64 => if zB q64.1 then some (q64.1, q64.2) else none
theorem zReader_readQuantifier_b60_r (N : Nat) (σ : z_S) (hσ : zR σ) : zrel (zReader_readQuantifier_b60 N σ) (Reader_readQuantifier_b60 N (zo σ)) := by
  unfold zReader_readQuantifier_b60 Reader_readQuantifier_b60
  refine zr_bind (zr_of (zReader_takeSign_r N _ (by decide) _ (by decide) _ hσ) (congr (congr (congrArg (Reader_takeSign N) (zl_1)) (zl_100000)) rfl)) (fun r64 s64σ hr64 hs64 => ?_)
  dsimp only
  refine zr_gg (zg_B rfl) (fun g1 => ?_)
  exact zr_some rfl hr64 rfl hs64
def zReader_readQuantifier_b68 (N : Nat) (σ : z_S) : Option (Int × z_S) := (zReader_takeSign N 0 1 σ).bind fun q71 => if zB q71.1 then some (q71.1, q71.2) else none
theorem zReader_readQuantifier_b68_r (N : Nat) (σ : z_S) (hσ : zR σ) : zrel (zReader_readQuantifier_b68 N σ) (Reader_readQuantifier_b68 N (zo σ)) := by
  unfold zReader_readQuantifier_b68 Reader_readQuantifier_b68
  refine zr_bind (zr_of (zReader_takeSign_r N _ (by decide) _ (by decide) _ hσ) (congr (congr (congrArg (Reader_takeSign N) (zl_0)) (zl_1)) rfl)) (fun r71 s71σ hr71 hs71 => ?_)
  dsimp only
  refine zr_gg (zg_B rfl) (fun g1 => ?_)
  exact zr_some rfl hr71 rfl hs71
def zReader_readQuantifier_b91 (N : Nat) (s0 : Int) (σ : z_S) : Option (Int × z_S) := if zB s0 then some (s0, σ) else none
theorem zReader_readQuantifier_b91_r (N : Nat) (s0 : Int) (hs0 : zin s0) (σ : z_S) (hσ : zR σ) : zrel (zReader_readQuantifier_b91 N s0 σ) (Reader_readQuantifier_b91 N (zI s0) (zo σ)) := by
  unfold zReader_readQuantifier_b91 Reader_readQuantifier_b91
  refine zr_gg (zg_B rfl) (fun g1 => ?_)
  exact zr_some rfl hs0 rfl hσ
def zReader_readQuantifier_b90 (N : Nat) (σ : z_S) : Option (Int × z_S) := zReader_readQuantifier_b91 N 0 σ
theorem zReader_readQuantifier_b90_r (N : Nat) (σ : z_S) (hσ : zR σ) : zrel (zReader_readQuantifier_b90 N σ) (Reader_readQuantifier_b90 N (zo σ)) := by
  unfold zReader_readQuantifier_b90 Reader_readQuantifier_b90
  exact zr_of (zReader_readQuantifier_b91_r N _ (by decide) _ hσ) (congr (congrArg (Reader_readQuantifier_b91 N) (zl_0)) rfl)
def zReader_readQuantifier_b86 (N : Nat) (σ : z_S) : Option (Int × z_S) := zReader_readQuantifier_b91 N 1 σ
theorem zReader_readQuantifier_b86_r (N : Nat) (σ : z_S) (hσ : zR σ) : zrel (zReader_readQuantifier_b86 N σ) (Reader_readQuantifier_b86 N (zo σ)) := by
  unfold zReader_readQuantifier_b86 Reader_readQuantifier_b86
  exact zr_of (zReader_readQuantifier_b91_r N _ (by decide) _ hσ) (congr (congrArg (Reader_readQuantifier_b91 N) (zl_1)) rfl)
def zReader_readQuantifier_b75 (N : Nat) (σ : z_S) : Option (Int × z_S) := (zReader_readBraces N σ).bind fun q76 => if (0 : Int) ≤ (q76.2.1 13) then zReader_readQuantifier_b90 N q76.2 else zReader_readQuantifier_b86 N q76.2
theorem zReader_readQuantifier_b75_r (N : Nat) (σ : z_S) (hσ : zR σ) : zrel (zReader_readQuantifier_b75 N σ) (Reader_readQuantifier_b75 N (zo σ)) := by
  unfold zReader_readQuantifier_b75 Reader_readQuantifier_b75
  refine zr_bind (zr_of (zReader_readBraces_r N  _ hσ) (congrArg (Reader_readBraces N) rfl)) (fun r76 s76σ hr76 hs76 => ?_)
  dsimp only
  refine zr_ite (zI_le (zl_0) (zo_fld rfl 13) (by decide) (hs76.1 13)) ?_ ?_
  · exact zr_of (zReader_readQuantifier_b90_r N  _ hs76) (congrArg (Reader_readQuantifier_b90 N) rfl)
  · exact zr_of (zReader_readQuantifier_b86_r N  _ hs76) (congrArg (Reader_readQuantifier_b86 N) rfl)
def zReader_readQuantifier_b92 (N : Nat) (σ : z_S) : Option (Int × z_S) := some (0, σ)
theorem zReader_readQuantifier_b92_r (N : Nat) (σ : z_S) (hσ : zR σ) : zrel (zReader_readQuantifier_b92 N σ) (Reader_readQuantifier_b92 N (zo σ)) := by
  unfold zReader_readQuantifier_b92 Reader_readQuantifier_b92
  exact zr_some (zl_0) (by decide) rfl hσ
def zReader_readQuantifier_b0 (N : Nat) (σ : z_S) : Option (Int × z_S) := (zReader_unitAt N (σ.1 12) σ).bind fun q5 => if q5.1 = 42 then zReader_readQuantifier_b52 N q5.2 else if q5.1 = 43 then zReader_readQuantifier_b60 N q5.2 else if q5.1 = 63 then zReader_readQuantifier_b68 N q5.2 else if q5.1 = 123 then zReader_readQuantifier_b75 N q5.2 else zReader_readQuantifier_b92 N q5.2
theorem zReader_readQuantifier_b0_r (N : Nat) (σ : z_S) (hσ : zR σ) : zrel (zReader_readQuantifier_b0 N σ) (Reader_readQuantifier_b0 N (zo σ)) := by
  unfold zReader_readQuantifier_b0 Reader_readQuantifier_b0
  refine zr_bind (zr_of (zReader_unitAt_r N _ (hσ.1 12) _ hσ) (congr (congrArg (Reader_unitAt N) (zo_fld rfl 12)) rfl)) (fun r5 s5σ hr5 hs5 => ?_)
  dsimp only
  refine zr_ite (zI_eq rfl (zl_42) hr5 (by decide)) ?_ ?_
  · exact zr_of (zReader_readQuantifier_b52_r N  _ hs5) (congrArg (Reader_readQuantifier_b52 N) rfl)
  · refine zr_ite (zI_eq rfl (zl_43) hr5 (by decide)) ?_ ?_
    · exact zr_of (zReader_readQuantifier_b60_r N  _ hs5) (congrArg (Reader_readQuantifier_b60 N) rfl)
    · refine zr_ite (zI_eq rfl (zl_63) hr5 (by decide)) ?_ ?_
      · exact zr_of (zReader_readQuantifier_b68_r N  _ hs5) (congrArg (Reader_readQuantifier_b68 N) rfl)
      · refine zr_ite (zI_eq rfl (zl_123) hr5 (by decide)) ?_ ?_
        · exact zr_of (zReader_readQuantifier_b75_r N  _ hs5) (congrArg (Reader_readQuantifier_b75 N) rfl)
        · exact zr_of (zReader_readQuantifier_b92_r N  _ hs5) (congrArg (Reader_readQuantifier_b92 N) rfl)
def zReader_readQuantifier (N : Nat) (σ : z_S) : Option (Int × z_S) := zReader_readQuantifier_b0 N σ
theorem zReader_readQuantifier_r (N : Nat) (σ : z_S) (hσ : zR σ) : zrel (zReader_readQuantifier N σ) (Reader_readQuantifier N (zo σ)) := by
  unfold zReader_readQuantifier Reader_readQuantifier
  exact zr_of (zReader_readQuantifier_b0_r N  _ hσ) (congrArg (Reader_readQuantifier_b0 N) rfl)
def zReader_appendRepetition_b177 (N : Nat) (x2 : Int) (x3 : Int) (s1 : Int) (s2 : Int) (σ : z_S) : Option (Int × z_S) := (zRows_write N 9 s1 s2 σ).bind fun q177 => (zRows_write N 10 x2 (q177.2.1 21) q177.2).bind fun q192 => (zRows_write N 11 x2 (q192.2.1 8) q192.2).bind fun q210 => (zReader_append N x3 x3 q210.2).bind fun q216 => some (0, q216.2)
theorem zReader_appendRepetition_b177_r (N : Nat) (x2 : Int) (hx2 : zin x2) (x3 : Int) (hx3 : zin x3) (s1 : Int) (hs1 : zin s1) (s2 : Int) (hs2 : zin s2) (σ : z_S) (hσ : zR σ) : zrel (zReader_appendRepetition_b177 N x2 x3 s1 s2 σ) (Reader_appendRepetition_b177 N (zI x2) (zI x3) (zI s1) (zI s2) (zo σ)) := by
  unfold zReader_appendRepetition_b177 Reader_appendRepetition_b177
  refine zr_bind (zr_of (zRows_write_r N 9 _ hs1 _ hs2 _ hσ) (congr (congr (congrArg (Rows_write N 9) rfl) rfl) rfl)) (fun r177 s177σ hr177 hs177 => ?_)
  dsimp only
  refine zr_bind (zr_of (zRows_write_r N 10 _ hx2 _ (hs177.1 21) _ hs177) (congr (congr (congrArg (Rows_write N 10) rfl) (zo_fld rfl 21)) rfl)) (fun r192 s192σ hr192 hs192 => ?_)
  dsimp only
  refine zr_bind (zr_of (zRows_write_r N 11 _ hx2 _ (hs192.1 8) _ hs192) (congr (congr (congrArg (Rows_write N 11) rfl) (zo_fld rfl 8)) rfl)) (fun r210 s210σ hr210 hs210 => ?_)
  dsimp only
  refine zr_bind (zr_of (zReader_append_r N _ hx3 _ hx3 _ hs210) (congr (congr (congrArg (Reader_append N) rfl) rfl) rfl)) (fun r216 s216σ hr216 hs216 => ?_)
  dsimp only
  exact zr_some (zl_0) (by decide) rfl hs216
def zReader_appendRepetition_b176 (N : Nat) (x2 : Int) (x3 : Int) (s1 : Int) (σ : z_S) : Option (Int × z_S) := zReader_appendRepetition_b177 N x2 x3 s1 0 σ
theorem zReader_appendRepetition_b176_r (N : Nat) (x2 : Int) (hx2 : zin x2) (x3 : Int) (hx3 : zin x3) (s1 : Int) (hs1 : zin s1) (σ : z_S) (hσ : zR σ) : zrel (zReader_appendRepetition_b176 N x2 x3 s1 σ) (Reader_appendRepetition_b176 N (zI x2) (zI x3) (zI s1) (zo σ)) := by
  unfold zReader_appendRepetition_b176 Reader_appendRepetition_b176
  exact zr_of (zReader_appendRepetition_b177_r N _ hx2 _ hx3 _ hs1 _ (by decide) _ hσ) (congr (congr (congr (congr (congrArg (Reader_appendRepetition_b177 N) rfl) rfl) rfl) (zl_0)) rfl)
def zReader_appendRepetition_b172 (N : Nat) (x2 : Int) (x3 : Int) (s1 : Int) (σ : z_S) : Option (Int × z_S) := zReader_appendRepetition_b177 N x2 x3 s1 1 σ
theorem zReader_appendRepetition_b172_r (N : Nat) (x2 : Int) (hx2 : zin x2) (x3 : Int) (hx3 : zin x3) (s1 : Int) (hs1 : zin s1) (σ : z_S) (hσ : zR σ) : zrel (zReader_appendRepetition_b172 N x2 x3 s1 σ) (Reader_appendRepetition_b172 N (zI x2) (zI x3) (zI s1) (zo σ)) := by
  unfold zReader_appendRepetition_b172 Reader_appendRepetition_b172
  exact zr_of (zReader_appendRepetition_b177_r N _ hx2 _ hx3 _ hs1 _ (by decide) _ hσ) (congr (congr (congr (congr (congrArg (Reader_appendRepetition_b177 N) rfl) rfl) rfl) (zl_1)) rfl)
def zReader_appendRepetition_b33 (N : Nat) (x1 : Int) (σ : z_S) : Option (Int × z_S) := if zin ((σ.1 6) + 1) then (zProgram_addNode N 12 (σ.1 6) 0 (zF σ 6 ((σ.1 6) + 1))).bind fun q62 => (zProgram_addNode N 13 (σ.1 6) 0 q62.2).bind fun q74 => (zProgram_addNode N 14 (σ.1 6) 0 q74.2).bind fun q87 => (zProgram_link N q74.1 (q87.2.1 19) q87.2).bind fun q102 => (zProgram_link N (q102.2.1 20) q87.1 q102.2).bind fun q115 => (zRows_write N 12 (σ.1 6) q62.1 q115.2).bind fun q127 => (zRows_write N 7 (σ.1 6) (q127.2.1 17) q127.2).bind fun q142 => (zRows_write N 8 (σ.1 6) (q142.2.1 18) q142.2).bind fun q157 => if x1 = 0 then zReader_appendRepetition_b176 N (σ.1 6) q62.1 (σ.1 6) q157.2 else zReader_appendRepetition_b172 N (σ.1 6) q62.1 (σ.1 6) q157.2 else none
theorem zReader_appendRepetition_b33_r (N : Nat) (x1 : Int) (hx1 : zin x1) (σ : z_S) (hσ : zR σ) : zrel (zReader_appendRepetition_b33 N x1 σ) (Reader_appendRepetition_b33 N (zI x1) (zo σ)) := by
  unfold zReader_appendRepetition_b33 Reader_appendRepetition_b33
  refine zr_g (fun g1 => ?_)
  refine zr_bind (zr_of (zProgram_addNode_r N _ (by decide) _ (hσ.1 6) _ (by decide) _ (zR_F (k := 6) hσ g1)) (congr (congr (congr (congrArg (Program_addNode N) (zl_12)) (zo_fld rfl 6)) (zl_0)) (zo_F (k := 6) rfl (zI_add (zo_fld rfl 6) (zl_1))))) (fun r62 s62σ hr62 hs62 => ?_)
  dsimp only
  refine zr_bind (zr_of (zProgram_addNode_r N _ (by decide) _ (hσ.1 6) _ (by decide) _ hs62) (congr (congr (congr (congrArg (Program_addNode N) (zl_13)) (zo_fld rfl 6)) (zl_0)) rfl)) (fun r74 s74σ hr74 hs74 => ?_)
  dsimp only
  refine zr_bind (zr_of (zProgram_addNode_r N _ (by decide) _ (hσ.1 6) _ (by decide) _ hs74) (congr (congr (congr (congrArg (Program_addNode N) (zl_14)) (zo_fld rfl 6)) (zl_0)) rfl)) (fun r87 s87σ hr87 hs87 => ?_)
  dsimp only
  refine zr_bind (zr_of (zProgram_link_r N _ hr74 _ (hs87.1 19) _ hs87) (congr (congr (congrArg (Program_link N) rfl) (zo_fld rfl 19)) rfl)) (fun r102 s102σ hr102 hs102 => ?_)
  dsimp only
  refine zr_bind (zr_of (zProgram_link_r N _ (hs102.1 20) _ hr87 _ hs102) (congr (congr (congrArg (Program_link N) (zo_fld rfl 20)) rfl) rfl)) (fun r115 s115σ hr115 hs115 => ?_)
  dsimp only
  refine zr_bind (zr_of (zRows_write_r N 12 _ (hσ.1 6) _ hr62 _ hs115) (congr (congr (congrArg (Rows_write N 12) (zo_fld rfl 6)) rfl) rfl)) (fun r127 s127σ hr127 hs127 => ?_)
  dsimp only
  refine zr_bind (zr_of (zRows_write_r N 7 _ (hσ.1 6) _ (hs127.1 17) _ hs127) (congr (congr (congrArg (Rows_write N 7) (zo_fld rfl 6)) (zo_fld rfl 17)) rfl)) (fun r142 s142σ hr142 hs142 => ?_)
  dsimp only
  refine zr_bind (zr_of (zRows_write_r N 8 _ (hσ.1 6) _ (hs142.1 18) _ hs142) (congr (congr (congrArg (Rows_write N 8) (zo_fld rfl 6)) (zo_fld rfl 18)) rfl)) (fun r157 s157σ hr157 hs157 => ?_)
  dsimp only
  refine zr_ite (zI_eq rfl (zl_0) hx1 (by decide)) ?_ ?_
  · exact zr_of (zReader_appendRepetition_b176_r N _ (hσ.1 6) _ hr62 _ (hσ.1 6) _ hs157) (congr (congr (congr (congrArg (Reader_appendRepetition_b176 N) (zo_fld rfl 6)) rfl) (zo_fld rfl 6)) rfl)
  · exact zr_of (zReader_appendRepetition_b172_r N _ (hσ.1 6) _ hr62 _ (hσ.1 6) _ hs157) (congr (congr (congr (congrArg (Reader_appendRepetition_b172 N) (zo_fld rfl 6)) rfl) (zo_fld rfl 6)) rfl)
def zReader_appendRepetition_b23 (N : Nat) (x1 : Int) (σ : z_S) : Option (Int × z_S) := if zin ((σ.1 12) + 1) then zReader_appendRepetition_b33 N x1 (zF σ 12 ((σ.1 12) + 1)) else none
theorem zReader_appendRepetition_b23_r (N : Nat) (x1 : Int) (hx1 : zin x1) (σ : z_S) (hσ : zR σ) : zrel (zReader_appendRepetition_b23 N x1 σ) (Reader_appendRepetition_b23 N (zI x1) (zo σ)) := by
  unfold zReader_appendRepetition_b23 Reader_appendRepetition_b23
  refine zr_g (fun g1 => ?_)
  exact zr_of (zReader_appendRepetition_b33_r N _ hx1 _ (zR_F (k := 12) hσ g1)) (congr (congrArg (Reader_appendRepetition_b33 N) rfl) (zo_F (k := 12) rfl (zI_add (zo_fld rfl 12) (zl_1))))
def zReader_appendRepetition_b18 (N : Nat) (s0 : Int) (σ : z_S) : Option (Int × z_S) := if s0 = 0 then zReader_appendRepetition_b33 N s0 σ else zReader_appendRepetition_b23 N s0 σ
theorem zReader_appendRepetition_b18_r (N : Nat) (s0 : Int) (hs0 : zin s0) (σ : z_S) (hσ : zR σ) : zrel (zReader_appendRepetition_b18 N s0 σ) (Reader_appendRepetition_b18 N (zI s0) (zo σ)) := by
  unfold zReader_appendRepetition_b18 Reader_appendRepetition_b18
  refine zr_ite (zI_eq rfl (zl_0) hs0 (by decide)) ?_ ?_
  · exact zr_of (zReader_appendRepetition_b33_r N _ hs0 _ hσ) (congr (congrArg (Reader_appendRepetition_b33 N) rfl) rfl)
  · exact zr_of (zReader_appendRepetition_b23_r N _ hs0 _ hσ) (congr (congrArg (Reader_appendRepetition_b23 N) rfl) rfl)
def zReader_appendRepetition_b17 (N : Nat) (σ : z_S) : Option (Int × z_S) := zReader_appendRepetition_b18 N 0 σ
theorem zReader_appendRepetition_b17_r (N : Nat) (σ : z_S) (hσ : zR σ) : zrel (zReader_appendRepetition_b17 N σ) (Reader_appendRepetition_b17 N (zo σ)) := by
  unfold zReader_appendRepetition_b17 Reader_appendRepetition_b17
  exact zr_of (zReader_appendRepetition_b18_r N _ (by decide) _ hσ) (congr (congrArg (Reader_appendRepetition_b18 N) (zl_0)) rfl)
def zReader_appendRepetition_b13 (N : Nat) (σ : z_S) : Option (Int × z_S) := zReader_appendRepetition_b18 N 1 σ
theorem zReader_appendRepetition_b13_r (N : Nat) (σ : z_S) (hσ : zR σ) : zrel (zReader_appendRepetition_b13 N σ) (Reader_appendRepetition_b13 N (zo σ)) := by
  unfold zReader_appendRepetition_b13 Reader_appendRepetition_b13
  exact zr_of (zReader_appendRepetition_b18_r N _ (by decide) _ hσ) (congr (congrArg (Reader_appendRepetition_b18 N) (zl_1)) rfl)
def zReader_appendRepetition_b0 (N : Nat) (σ : z_S) : Option (Int × z_S) := (zReader_unitAt N (σ.1 12) σ).bind fun q5 => if q5.1 = 63 then zReader_appendRepetition_b13 N q5.2 else zReader_appendRepetition_b17 N q5.2
theorem zReader_appendRepetition_b0_r (N : Nat) (σ : z_S) (hσ : zR σ) : zrel (zReader_appendRepetition_b0 N σ) (Reader_appendRepetition_b0 N (zo σ)) := by
  unfold zReader_appendRepetition_b0 Reader_appendRepetition_b0
  refine zr_bind (zr_of (zReader_unitAt_r N _ (hσ.1 12) _ hσ) (congr (congrArg (Reader_unitAt N) (zo_fld rfl 12)) rfl)) (fun r5 s5σ hr5 hs5 => ?_)
  dsimp only
  refine zr_ite (zI_eq rfl (zl_63) hr5 (by decide)) ?_ ?_
  · exact zr_of (zReader_appendRepetition_b13_r N  _ hs5) (congrArg (Reader_appendRepetition_b13 N) rfl)
  · exact zr_of (zReader_appendRepetition_b17_r N  _ hs5) (congrArg (Reader_appendRepetition_b17 N) rfl)
def zReader_appendRepetition (N : Nat) (σ : z_S) : Option (Int × z_S) := zReader_appendRepetition_b0 N σ
theorem zReader_appendRepetition_r (N : Nat) (σ : z_S) (hσ : zR σ) : zrel (zReader_appendRepetition N σ) (Reader_appendRepetition N (zo σ)) := by
  unfold zReader_appendRepetition Reader_appendRepetition
  exact zr_of (zReader_appendRepetition_b0_r N  _ hσ) (congrArg (Reader_appendRepetition_b0 N) rfl)
def zReader_appendAtom_b26 (N : Nat) (σ : z_S) : Option (Int × z_S) := some (0, (zF σ 19 (-1)))
theorem zReader_appendAtom_b26_r (N : Nat) (σ : z_S) (hσ : zR σ) : zrel (zReader_appendAtom_b26 N σ) (Reader_appendAtom_b26 N (zo σ)) := by
  unfold zReader_appendAtom_b26 Reader_appendAtom_b26
  exact zr_some (zl_0) (by decide) (zo_F (k := 19) rfl (zl_m1)) (zR_F (k := 19) hσ (by decide))
def zReader_appendAtom_b14 (N : Nat) (σ : z_S) : Option (Int × z_S) := (zReader_append N (σ.1 19) (σ.1 20) σ).bind fun q23 => zReader_appendAtom_b26 N q23.2
theorem zReader_appendAtom_b14_r (N : Nat) (σ : z_S) (hσ : zR σ) : zrel (zReader_appendAtom_b14 N σ) (Reader_appendAtom_b14 N (zo σ)) := by
  unfold zReader_appendAtom_b14 Reader_appendAtom_b14
  refine zr_bind (zr_of (zReader_append_r N _ (hσ.1 19) _ (hσ.1 20) _ hσ) (congr (congr (congrArg (Reader_append N) (zo_fld rfl 19)) (zo_fld rfl 20)) rfl)) (fun r23 s23σ hr23 hs23 => ?_)
  dsimp only
  exact zr_of (zReader_appendAtom_b26_r N  _ hs23) (congrArg (Reader_appendAtom_b26 N) rfl)
def zReader_appendAtom_b7 (N : Nat) (σ : z_S) : Option (Int × z_S) := (zReader_appendRepetition N σ).bind fun q8 => zReader_appendAtom_b26 N q8.2
theorem zReader_appendAtom_b7_r (N : Nat) (σ : z_S) (hσ : zR σ) : zrel (zReader_appendAtom_b7 N σ) (Reader_appendAtom_b7 N (zo σ)) := by
  unfold zReader_appendAtom_b7 Reader_appendAtom_b7
  refine zr_bind (zr_of (zReader_appendRepetition_r N  _ hσ) (congrArg (Reader_appendRepetition N) rfl)) (fun r8 s8σ hr8 hs8 => ?_)
  dsimp only
  exact zr_of (zReader_appendAtom_b26_r N  _ hs8) (congrArg (Reader_appendAtom_b26 N) rfl)
def zReader_appendAtom_b0 (N : Nat) (σ : z_S) : Option (Int × z_S) := (zReader_readQuantifier N σ).bind fun q1 => if q1.1 = 0 then zReader_appendAtom_b14 N q1.2 else zReader_appendAtom_b7 N q1.2
theorem zReader_appendAtom_b0_r (N : Nat) (σ : z_S) (hσ : zR σ) : zrel (zReader_appendAtom_b0 N σ) (Reader_appendAtom_b0 N (zo σ)) := by
  unfold zReader_appendAtom_b0 Reader_appendAtom_b0
  refine zr_bind (zr_of (zReader_readQuantifier_r N  _ hσ) (congrArg (Reader_readQuantifier N) rfl)) (fun r1 s1σ hr1 hs1 => ?_)
  dsimp only
  refine zr_ite (zI_eq rfl (zl_0) hr1 (by decide)) ?_ ?_
  · exact zr_of (zReader_appendAtom_b14_r N  _ hs1) (congrArg (Reader_appendAtom_b14 N) rfl)
  · exact zr_of (zReader_appendAtom_b7_r N  _ hs1) (congrArg (Reader_appendAtom_b7 N) rfl)
def zReader_appendAtom (N : Nat) (σ : z_S) : Option (Int × z_S) := zReader_appendAtom_b0 N σ
theorem zReader_appendAtom_r (N : Nat) (σ : z_S) (hσ : zR σ) : zrel (zReader_appendAtom N σ) (Reader_appendAtom N (zo σ)) := by
  unfold zReader_appendAtom Reader_appendAtom
  exact zr_of (zReader_appendAtom_b0_r N  _ hσ) (congrArg (Reader_appendAtom_b0 N) rfl)
def zReader_tooGreatReference_b68 (N : Nat) (σ : z_S) : Option (Int × z_S) := some ((-1), σ)
theorem zReader_tooGreatReference_b68_r (N : Nat) (σ : z_S) (hσ : zR σ) : zrel (zReader_tooGreatReference_b68 N σ) (Reader_tooGreatReference_b68 N (zo σ)) := by
  unfold zReader_tooGreatReference_b68 Reader_tooGreatReference_b68
  exact zr_some (zl_m1) (by decide) rfl hσ
def zReader_tooGreatReference_b62 (N : Nat) (k2 : Int → z_S → Option (Int × z_S)) (x1 : Int) (σ : z_S) : Option (Int × z_S) := if zin (x1 + 1) then k2 (x1 + 1) σ else none
theorem zReader_tooGreatReference_b62_r (N : Nat) (k2 : Int → z_S → Option (Int × z_S)) (k2' : Int32 → g_S → Option (Int32 × g_S)) (hk2 : ∀ (y0 : Int) (_ : zin y0) (σ : z_S), zR σ → zrel (k2 y0 σ) (k2' (zI y0) (zo σ))) (x1 : Int) (hx1 : zin x1) (σ : z_S) (hσ : zR σ) : zrel (zReader_tooGreatReference_b62 N k2 x1 σ) (Reader_tooGreatReference_b62 N k2' (zI x1) (zo σ)) := by
  unfold zReader_tooGreatReference_b62 Reader_tooGreatReference_b62
  refine zr_g (fun g1 => ?_)
  exact zr_of (hk2 _ g1 _ hσ) (congr (congrArg (k2') (zI_add rfl (zl_1))) rfl)
def zReader_tooGreatReference_b50 (N : Nat) (x1 : Int) (σ : z_S) : Option (Int × z_S) := (zRows_read N 4 x1 σ).bind fun q58 => some (q58.1, q58.2)
theorem zReader_tooGreatReference_b50_r (N : Nat) (x1 : Int) (hx1 : zin x1) (σ : z_S) (hσ : zR σ) : zrel (zReader_tooGreatReference_b50 N x1 σ) (Reader_tooGreatReference_b50 N (zI x1) (zo σ)) := by
  unfold zReader_tooGreatReference_b50 Reader_tooGreatReference_b50
  refine zr_bind (zr_of (zRows_read_r N 4 _ hx1 _ hσ) (congr (congrArg (Rows_read N 4) rfl) rfl)) (fun r58 s58σ hr58 hs58 => ?_)
  dsimp only
  exact zr_some rfl hr58 rfl hs58
def zReader_tooGreatReference_b29 (N : Nat) (k2 : Int → z_S → Option (Int × z_S)) (x1 : Int) (σ : z_S) : Option (Int × z_S) := (zRows_read N 3 x1 σ).bind fun q37 => if q37.1 ≤ (q37.2.1 8) then zReader_tooGreatReference_b62 N k2 x1 q37.2 else zReader_tooGreatReference_b50 N x1 q37.2
theorem zReader_tooGreatReference_b29_r (N : Nat) (k2 : Int → z_S → Option (Int × z_S)) (k2' : Int32 → g_S → Option (Int32 × g_S)) (hk2 : ∀ (y0 : Int) (_ : zin y0) (σ : z_S), zR σ → zrel (k2 y0 σ) (k2' (zI y0) (zo σ))) (x1 : Int) (hx1 : zin x1) (σ : z_S) (hσ : zR σ) : zrel (zReader_tooGreatReference_b29 N k2 x1 σ) (Reader_tooGreatReference_b29 N k2' (zI x1) (zo σ)) := by
  unfold zReader_tooGreatReference_b29 Reader_tooGreatReference_b29
  refine zr_bind (zr_of (zRows_read_r N 3 _ hx1 _ hσ) (congr (congrArg (Rows_read N 3) rfl) rfl)) (fun r37 s37σ hr37 hs37 => ?_)
  dsimp only
  refine zr_ite (zI_le rfl (zo_fld rfl 8) hr37 (hs37.1 8)) ?_ ?_
  · exact zr_of (zReader_tooGreatReference_b62_r N k2 k2' hk2 _ hx1 _ hs37) (congr (congrArg (Reader_tooGreatReference_b62 N k2') rfl) rfl)
  · exact zr_of (zReader_tooGreatReference_b50_r N _ hx1 _ hs37) (congr (congrArg (Reader_tooGreatReference_b50 N) rfl) rfl)
def zReader_tooGreatReference_b13 (N : Nat) (k2 : Int → z_S → Option (Int × z_S)) (x1 : Int) (σ : z_S) : Option (Int × z_S) := (zRows_read N 1 x1 σ).bind fun q21 => if q21.1 = 6 then zReader_tooGreatReference_b29 N k2 x1 q21.2 else zReader_tooGreatReference_b62 N k2 x1 q21.2
theorem zReader_tooGreatReference_b13_r (N : Nat) (k2 : Int → z_S → Option (Int × z_S)) (k2' : Int32 → g_S → Option (Int32 × g_S)) (hk2 : ∀ (y0 : Int) (_ : zin y0) (σ : z_S), zR σ → zrel (k2 y0 σ) (k2' (zI y0) (zo σ))) (x1 : Int) (hx1 : zin x1) (σ : z_S) (hσ : zR σ) : zrel (zReader_tooGreatReference_b13 N k2 x1 σ) (Reader_tooGreatReference_b13 N k2' (zI x1) (zo σ)) := by
  unfold zReader_tooGreatReference_b13 Reader_tooGreatReference_b13
  refine zr_bind (zr_of (zRows_read_r N 1 _ hx1 _ hσ) (congr (congrArg (Rows_read N 1) rfl) rfl)) (fun r21 s21σ hr21 hs21 => ?_)
  dsimp only
  refine zr_ite (zI_eq rfl (zl_6) hr21 (by decide)) ?_ ?_
  · exact zr_of (zReader_tooGreatReference_b29_r N k2 k2' hk2 _ hx1 _ hs21) (congr (congrArg (Reader_tooGreatReference_b29 N k2') rfl) rfl)
  · exact zr_of (zReader_tooGreatReference_b62_r N k2 k2' hk2 _ hx1 _ hs21) (congr (congrArg (Reader_tooGreatReference_b62 N k2') rfl) rfl)
def zReader_tooGreatReference_b2 (N : Nat) (k2 : Int → z_S → Option (Int × z_S)) (x1 : Int) (σ : z_S) : Option (Int × z_S) := if (σ.1 4) ≤ x1 then zReader_tooGreatReference_b68 N σ else zReader_tooGreatReference_b13 N k2 x1 σ
theorem zReader_tooGreatReference_b2_r (N : Nat) (k2 : Int → z_S → Option (Int × z_S)) (k2' : Int32 → g_S → Option (Int32 × g_S)) (hk2 : ∀ (y0 : Int) (_ : zin y0) (σ : z_S), zR σ → zrel (k2 y0 σ) (k2' (zI y0) (zo σ))) (x1 : Int) (hx1 : zin x1) (σ : z_S) (hσ : zR σ) : zrel (zReader_tooGreatReference_b2 N k2 x1 σ) (Reader_tooGreatReference_b2 N k2' (zI x1) (zo σ)) := by
  unfold zReader_tooGreatReference_b2 Reader_tooGreatReference_b2
  refine zr_ite (zI_le (zo_fld rfl 4) rfl (hσ.1 4) hx1) ?_ ?_
  · exact zr_of (zReader_tooGreatReference_b68_r N  _ hσ) (congrArg (Reader_tooGreatReference_b68 N) rfl)
  · exact zr_of (zReader_tooGreatReference_b13_r N k2 k2' hk2 _ hx1 _ hσ) (congr (congrArg (Reader_tooGreatReference_b13 N k2') rfl) rfl)
def zReader_tooGreatReference_l2 (N : Nat) : Nat → Int → z_S → Option (Int × z_S)
  | 0 => fun _ _ => none
  | n + 1 => fun x1 σ => zReader_tooGreatReference_b2 N (zReader_tooGreatReference_l2 N n) x1 σ
theorem zReader_tooGreatReference_l2_r (N : Nat) (n : Nat) : ∀ (x1 : Int) (hx1 : zin x1) (σ : z_S) (_ : zR σ), zrel (zReader_tooGreatReference_l2 N n x1 σ) (Reader_tooGreatReference_l2 N n (zI x1) (zo σ)) := by
  induction n with
  | zero => intro x1 hx1 σ hσ r s h; cases h
  | succ n ih => intro x1 hx1 σ hσ; exact zReader_tooGreatReference_b2_r N _ _ (fun x1 hx1 σ hσ => ih x1 hx1 σ hσ) x1 hx1 σ hσ
def zReader_tooGreatReference_b0 (N : Nat) (σ : z_S) : Option (Int × z_S) := zReader_tooGreatReference_l2 N N 0 σ
theorem zReader_tooGreatReference_b0_r (N : Nat) (σ : z_S) (hσ : zR σ) : zrel (zReader_tooGreatReference_b0 N σ) (Reader_tooGreatReference_b0 N (zo σ)) := by
  unfold zReader_tooGreatReference_b0 Reader_tooGreatReference_b0
  exact zr_of (zReader_tooGreatReference_l2_r N N _ (by decide) _ hσ) (congr (congrArg (Reader_tooGreatReference_l2 N N) (zl_0)) rfl)
def zReader_tooGreatReference (N : Nat) (σ : z_S) : Option (Int × z_S) := zReader_tooGreatReference_b0 N σ
theorem zReader_tooGreatReference_r (N : Nat) (σ : z_S) (hσ : zR σ) : zrel (zReader_tooGreatReference N σ) (Reader_tooGreatReference N (zo σ)) := by
  unfold zReader_tooGreatReference Reader_tooGreatReference
  exact zr_of (zReader_tooGreatReference_b0_r N  _ hσ) (congrArg (Reader_tooGreatReference_b0 N) rfl)
