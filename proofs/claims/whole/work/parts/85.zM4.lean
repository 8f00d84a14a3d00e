def zMod_escapedAtom_b32 (N : Nat) (s1 : Int) (σ : z_S) : Option (Int × z_S) := (zMod_assertion N s1 2 σ).bind fun q33 => some (0, q33.2)
theorem zMod_escapedAtom_b32_r (N : Nat) (s1 : Int) (hs1 : zin s1) (σ : z_S) (hσ : zR σ) : zrel (zMod_escapedAtom_b32 N s1 σ) (Mod_escapedAtom_b32 N (zI s1) (zo σ)) := by
  unfold zMod_escapedAtom_b32 Mod_escapedAtom_b32
  refine zr_bind (zr_of (zMod_assertion_r N _ hs1 _ (by decide) _ hσ) (congr (congr (congrArg (Mod_assertion N) rfl) (zl_2)) rfl)) (fun r33 s33σ hr33 hs33 => ?_)
  dsimp only
  exact zr_some (zl_0) (by decide) rfl hs33
def zMod_escapedAtom_b30 (N : Nat) (σ : z_S) : Option (Int × z_S) := zMod_escapedAtom_b32 N 11 σ
theorem zMod_escapedAtom_b30_r (N : Nat) (σ : z_S) (hσ : zR σ) : zrel (zMod_escapedAtom_b30 N σ) (Mod_escapedAtom_b30 N (zo σ)) := by
  unfold zMod_escapedAtom_b30 Mod_escapedAtom_b30
  exact zr_of (zMod_escapedAtom_b32_r N _ (by decide) _ hσ) (congr (congrArg (Mod_escapedAtom_b32 N) (zl_11)) rfl)
def zMod_escapedAtom_b25 (N : Nat) (σ : z_S) : Option (Int × z_S) := zMod_escapedAtom_b32 N 10 σ
theorem zMod_escapedAtom_b25_r (N : Nat) (σ : z_S) (hσ : zR σ) : zrel (zMod_escapedAtom_b25 N σ) (Mod_escapedAtom_b25 N (zo σ)) := by
  unfold zMod_escapedAtom_b25 Mod_escapedAtom_b25
  exact zr_of (zMod_escapedAtom_b32_r N _ (by decide) _ hσ) (congr (congrArg (Mod_escapedAtom_b32 N) (zl_10)) rfl)
def zMod_escapedAtom_b18 (N : Nat) (x1 : Int) (σ : z_S) : Option (Int × z_S) := if x1 = 98 then zMod_escapedAtom_b25 N σ else zMod_escapedAtom_b30 N σ
theorem zMod_escapedAtom_b18_r (N : Nat) (x1 : Int) (hx1 : zin x1) (σ : z_S) (hσ : zR σ) : zrel (zMod_escapedAtom_b18 N x1 σ) (Mod_escapedAtom_b18 N (zI x1) (zo σ)) := by
  unfold zMod_escapedAtom_b18 Mod_escapedAtom_b18
  refine zr_ite (zI_eq rfl (zl_98) hx1 (by decide)) ?_ ?_
  · exact zr_of (zMod_escapedAtom_b25_r N  _ hσ) (congrArg (Mod_escapedAtom_b25 N) rfl)
  · exact zr_of (zMod_escapedAtom_b30_r N  _ hσ) (congrArg (Mod_escapedAtom_b30 N) rfl)
def zMod_escapedAtom_b98 (N : Nat) (σ : z_S) : Option (Int × z_S) := some (0, σ)
theorem zMod_escapedAtom_b98_r (N : Nat) (σ : z_S) (hσ : zR σ) : zrel (zMod_escapedAtom_b98 N σ) (Mod_escapedAtom_b98 N (zo σ)) := by
  unfold zMod_escapedAtom_b98 Mod_escapedAtom_b98
  exact zr_some (zl_0) (by decide) rfl hσ
def zMod_escapedAtom_b86 (N : Nat) (x2 : Int) (s2 : Int) (σ : z_S) : Option (Int × z_S) := (zMod_node N s2 (σ.1 13) x2 0 σ).bind fun q92 => (zMod_quantify N q92.1 q92.2).bind fun q95 => zMod_escapedAtom_b98 N q95.2
theorem zMod_escapedAtom_b86_r (N : Nat) (x2 : Int) (hx2 : zin x2) (s2 : Int) (hs2 : zin s2) (σ : z_S) (hσ : zR σ) : zrel (zMod_escapedAtom_b86 N x2 s2 σ) (Mod_escapedAtom_b86 N (zI x2) (zI s2) (zo σ)) := by
  unfold zMod_escapedAtom_b86 Mod_escapedAtom_b86
  refine zr_bind (zr_of (zMod_node_r N _ hs2 _ (hσ.1 13) _ hx2 _ (by decide) _ hσ) (congr (congr (congr (congr (congrArg (Mod_node N) rfl) (zo_fld rfl 13)) rfl) (zl_0)) rfl)) (fun r92 s92σ hr92 hs92 => ?_)
  dsimp only
  refine zr_bind (zr_of (zMod_quantify_r N _ hr92 _ hs92) (congr (congrArg (Mod_quantify N) rfl) rfl)) (fun r95 s95σ hr95 hs95 => ?_)
  dsimp only
  exact zr_of (zMod_escapedAtom_b98_r N  _ hs95) (congrArg (Mod_escapedAtom_b98 N) rfl)
def zMod_escapedAtom_b84 (N : Nat) (x2 : Int) (σ : z_S) : Option (Int × z_S) := zMod_escapedAtom_b86 N x2 7 σ
theorem zMod_escapedAtom_b84_r (N : Nat) (x2 : Int) (hx2 : zin x2) (σ : z_S) (hσ : zR σ) : zrel (zMod_escapedAtom_b84 N x2 σ) (Mod_escapedAtom_b84 N (zI x2) (zo σ)) := by
  unfold zMod_escapedAtom_b84 Mod_escapedAtom_b84
  exact zr_of (zMod_escapedAtom_b86_r N _ hx2 _ (by decide) _ hσ) (congr (congr (congrArg (Mod_escapedAtom_b86 N) rfl) (zl_7)) rfl)
def zMod_escapedAtom_b80 (N : Nat) (x2 : Int) (σ : z_S) : Option (Int × z_S) := zMod_escapedAtom_b86 N x2 5 σ
theorem zMod_escapedAtom_b80_r (N : Nat) (x2 : Int) (hx2 : zin x2) (σ : z_S) (hσ : zR σ) : zrel (zMod_escapedAtom_b80 N x2 σ) (Mod_escapedAtom_b80 N (zI x2) (zo σ)) := by
  unfold zMod_escapedAtom_b80 Mod_escapedAtom_b80
  exact zr_of (zMod_escapedAtom_b86_r N _ hx2 _ (by decide) _ hσ) (congr (congr (congrArg (Mod_escapedAtom_b86 N) rfl) (zl_5)) rfl)
def zMod_escapedAtom_b75 (N : Nat) (x2 : Int) (x3 : Int) (σ : z_S) : Option (Int × z_S) := if x3 = 1 then zMod_escapedAtom_b80 N x2 σ else zMod_escapedAtom_b84 N x2 σ
theorem zMod_escapedAtom_b75_r (N : Nat) (x2 : Int) (hx2 : zin x2) (x3 : Int) (hx3 : zin x3) (σ : z_S) (hσ : zR σ) : zrel (zMod_escapedAtom_b75 N x2 x3 σ) (Mod_escapedAtom_b75 N (zI x2) (zI x3) (zo σ)) := by
  unfold zMod_escapedAtom_b75 Mod_escapedAtom_b75
  refine zr_ite (zI_eq rfl (zl_1) hx3 (by decide)) ?_ ?_
  · exact zr_of (zMod_escapedAtom_b80_r N _ hx2 _ hσ) (congr (congrArg (Mod_escapedAtom_b80 N) rfl) rfl)
  · exact zr_of (zMod_escapedAtom_b84_r N _ hx2 _ hσ) (congr (congrArg (Mod_escapedAtom_b84 N) rfl) rfl)
def zMod_escapedAtom_b71 (N : Nat) (x2 : Int) (σ : z_S) : Option (Int × z_S) := zMod_escapedAtom_b86 N x2 3 σ
theorem zMod_escapedAtom_b71_r (N : Nat) (x2 : Int) (hx2 : zin x2) (σ : z_S) (hσ : zR σ) : zrel (zMod_escapedAtom_b71 N x2 σ) (Mod_escapedAtom_b71 N (zI x2) (zo σ)) := by
  unfold zMod_escapedAtom_b71 Mod_escapedAtom_b71
  exact zr_of (zMod_escapedAtom_b86_r N _ hx2 _ (by decide) _ hσ) (congr (congr (congrArg (Mod_escapedAtom_b86 N) rfl) (zl_3)) rfl)
def zMod_escapedAtom_b65 (N : Nat) (x2 : Int) (x3 : Int) (σ : z_S) : Option (Int × z_S) := if x3 = 0 then zMod_escapedAtom_b71 N x2 σ else zMod_escapedAtom_b75 N x2 x3 σ
theorem zMod_escapedAtom_b65_r (N : Nat) (x2 : Int) (hx2 : zin x2) (x3 : Int) (hx3 : zin x3) (σ : z_S) (hσ : zR σ) : zrel (zMod_escapedAtom_b65 N x2 x3 σ) (Mod_escapedAtom_b65 N (zI x2) (zI x3) (zo σ)) := by
  unfold zMod_escapedAtom_b65 Mod_escapedAtom_b65
  refine zr_ite (zI_eq rfl (zl_0) hx3 (by decide)) ?_ ?_
  · exact zr_of (zMod_escapedAtom_b71_r N _ hx2 _ hσ) (congr (congrArg (Mod_escapedAtom_b71 N) rfl) rfl)
  · exact zr_of (zMod_escapedAtom_b75_r N _ hx2 _ hx3 _ hσ) (congr (congr (congrArg (Mod_escapedAtom_b75 N) rfl) rfl) rfl)
def zMod_escapedAtom_b37 (N : Nat) (σ : z_S) : Option (Int × z_S) := if zin ((σ.1 11) + 1) then (zMod_escape N 0 (zF σ 11 ((σ.1 11) + 1))).bind fun q54 => if (0 : Int) ≤ (q54.2.1 12) then zMod_escapedAtom_b98 N q54.2 else zMod_escapedAtom_b65 N ((σ.1 11) + 1) q54.1 q54.2 else none
theorem zMod_escapedAtom_b37_r (N : Nat) (σ : z_S) (hσ : zR σ) : zrel (zMod_escapedAtom_b37 N σ) (Mod_escapedAtom_b37 N (zo σ)) := by
  unfold zMod_escapedAtom_b37 Mod_escapedAtom_b37
  refine zr_g (fun g1 => ?_)
  refine zr_bind (zr_of (zMod_escape_r N _ (by decide) _ (zR_F (k := 11) hσ g1)) (congr (congrArg (Mod_escape N) (zl_0)) (zo_F (k := 11) rfl (zI_add (zo_fld rfl 11) (zl_1))))) (fun r54 s54σ hr54 hs54 => ?_)
  dsimp only
  refine zr_ite (zI_le (zl_0) (zo_fld rfl 12) (by decide) (hs54.1 12)) ?_ ?_
  · exact zr_of (zMod_escapedAtom_b98_r N  _ hs54) (congrArg (Mod_escapedAtom_b98 N) rfl)
  · exact zr_of (zMod_escapedAtom_b65_r N _ g1 _ hr54 _ hs54) (congr (congr (congrArg (Mod_escapedAtom_b65 N) (zI_add (zo_fld rfl 11) (zl_1))) rfl) rfl)
def zMod_escapedAtom_b12 (N : Nat) (x1 : Int) (σ : z_S) : Option (Int × z_S) := if x1 = 66 then zMod_escapedAtom_b18 N x1 σ else zMod_escapedAtom_b37 N σ
theorem zMod_escapedAtom_b12_r (N : Nat) (x1 : Int) (hx1 : zin x1) (σ : z_S) (hσ : zR σ) : zrel (zMod_escapedAtom_b12 N x1 σ) (Mod_escapedAtom_b12 N (zI x1) (zo σ)) := by
  unfold zMod_escapedAtom_b12 Mod_escapedAtom_b12
  refine zr_ite (zI_eq rfl (zl_66) hx1 (by decide)) ?_ ?_
  · exact zr_of (zMod_escapedAtom_b18_r N _ hx1 _ hσ) (congr (congrArg (Mod_escapedAtom_b18 N) rfl) rfl)
  · exact zr_of (zMod_escapedAtom_b37_r N  _ hσ) (congrArg (Mod_escapedAtom_b37 N) rfl)
def zMod_escapedAtom_b0 (N : Nat) (σ : z_S) : Option (Int × z_S) := (zMod_see N 1 σ).bind fun q2 => if q2.1 = 98 then zMod_escapedAtom_b18 N q2.1 q2.2 else zMod_escapedAtom_b12 N q2.1 q2.2
theorem zMod_escapedAtom_b0_r (N : Nat) (σ : z_S) (hσ : zR σ) : zrel (zMod_escapedAtom_b0 N σ) (Mod_escapedAtom_b0 N (zo σ)) := by
  unfold zMod_escapedAtom_b0 Mod_escapedAtom_b0
  refine zr_bind (zr_of (zMod_see_r N _ (by decide) _ hσ) (congr (congrArg (Mod_see N) (zl_1)) rfl)) (fun r2 s2σ hr2 hs2 => ?_)
  dsimp only
  refine zr_ite (zI_eq rfl (zl_98) hr2 (by decide)) ?_ ?_
  · exact zr_of (zMod_escapedAtom_b18_r N _ hr2 _ hs2) (congr (congrArg (Mod_escapedAtom_b18 N) rfl) rfl)
  · exact zr_of (zMod_escapedAtom_b12_r N _ hr2 _ hs2) (congr (congrArg (Mod_escapedAtom_b12 N) rfl) rfl)
def zMod_escapedAtom (N : Nat) (σ : z_S) : Option (Int × z_S) := zMod_escapedAtom_b0 N σ
theorem zMod_escapedAtom_r (N : Nat) (σ : z_S) (hσ : zR σ) : zrel (zMod_escapedAtom N σ) (Mod_escapedAtom N (zo σ)) := by
  unfold zMod_escapedAtom Mod_escapedAtom
  exact zr_of (zMod_escapedAtom_b0_r N  _ hσ) (congrArg (Mod_escapedAtom_b0 N) rfl)
def zMod_term_b220 (N : Nat) (σ : z_S) : Option (Int × z_S) := some (0, σ)
theorem zMod_term_b220_r (N : Nat) (σ : z_S) (hσ : zR σ) : zrel (zMod_term_b220 N σ) (Mod_term_b220 N (zo σ)) := by
  unfold zMod_term_b220 Mod_term_b220
  exact zr_some (zl_0) (by decide) rfl hσ
def zMod_term_b99 (N : Nat) (s1 : Int) (σ : z_S) : Option (Int × z_S) := (zMod_assertion N s1 1 σ).bind fun q100 => zMod_term_b220 N q100.2
theorem zMod_term_b99_r (N : Nat) (s1 : Int) (hs1 : zin s1) (σ : z_S) (hσ : zR σ) : zrel (zMod_term_b99 N s1 σ) (Mod_term_b99 N (zI s1) (zo σ)) := by
  unfold zMod_term_b99 Mod_term_b99
  refine zr_bind (zr_of (zMod_assertion_r N _ hs1 _ (by decide) _ hσ) (congr (congr (congrArg (Mod_assertion N) rfl) (zl_1)) rfl)) (fun r100 s100σ hr100 hs100 => ?_)
  dsimp only
  exact zr_of (zMod_term_b220_r N  _ hs100) (congrArg (Mod_term_b220 N) rfl)
def zMod_term_b97 (N : Nat) (σ : z_S) : Option (Int × z_S) := zMod_term_b99 N 9 σ
theorem zMod_term_b97_r (N : Nat) (σ : z_S) (hσ : zR σ) : zrel (zMod_term_b97 N σ) (Mod_term_b97 N (zo σ)) := by
  unfold zMod_term_b97 Mod_term_b97
  exact zr_of (zMod_term_b99_r N _ (by decide) _ hσ) (congr (congrArg (Mod_term_b99 N) (zl_9)) rfl)
def zMod_term_b92 (N : Nat) (σ : z_S) : Option (Int × z_S) := zMod_term_b99 N 8 σ
theorem zMod_term_b92_r (N : Nat) (σ : z_S) (hσ : zR σ) : zrel (zMod_term_b92 N σ) (Mod_term_b92 N (zo σ)) := by
  unfold zMod_term_b92 Mod_term_b92
  exact zr_of (zMod_term_b99_r N _ (by decide) _ hσ) (congr (congrArg (Mod_term_b99 N) (zl_8)) rfl)
def zMod_term_b85 (N : Nat) (x1 : Int) (σ : z_S) : Option (Int × z_S) := if x1 = 94 then zMod_term_b92 N σ else zMod_term_b97 N σ
theorem zMod_term_b85_r (N : Nat) (x1 : Int) (hx1 : zin x1) (σ : z_S) (hσ : zR σ) : zrel (zMod_term_b85 N x1 σ) (Mod_term_b85 N (zI x1) (zo σ)) := by
  unfold zMod_term_b85 Mod_term_b85
  refine zr_ite (zI_eq rfl (zl_94) hx1 (by decide)) ?_ ?_
  · exact zr_of (zMod_term_b92_r N  _ hσ) (congrArg (Mod_term_b92 N) rfl)
  · exact zr_of (zMod_term_b97_r N  _ hσ) (congrArg (Mod_term_b97 N) rfl)
def zMod_term_b155 (N : Nat) (σ : z_S) : Option (Int × z_S) := (zMod_fail N (σ.1 11) σ).bind fun q160 => zMod_term_b220 N q160.2
theorem zMod_term_b155_r (N : Nat) (σ : z_S) (hσ : zR σ) : zrel (zMod_term_b155 N σ) (Mod_term_b155 N (zo σ)) := by
  unfold zMod_term_b155 Mod_term_b155
  refine zr_bind (zr_of (zMod_fail_r N _ (hσ.1 11) _ hσ) (congr (congrArg (Mod_fail N) (zo_fld rfl 11)) rfl)) (fun r160 s160σ hr160 hs160 => ?_)
  dsimp only
  exact zr_of (zMod_term_b220_r N  _ hs160) (congrArg (Mod_term_b220 N) rfl)
def zMod_term_b215 (N : Nat) (x2 : Int) (σ : z_S) : Option (Int × z_S) := (zMod_quantify N x2 σ).bind fun q217 => zMod_term_b220 N q217.2
theorem zMod_term_b215_r (N : Nat) (x2 : Int) (hx2 : zin x2) (σ : z_S) (hσ : zR σ) : zrel (zMod_term_b215 N x2 σ) (Mod_term_b215 N (zI x2) (zo σ)) := by
  unfold zMod_term_b215 Mod_term_b215
  refine zr_bind (zr_of (zMod_quantify_r N _ hx2 _ hσ) (congr (congrArg (Mod_quantify N) rfl) rfl)) (fun r217 s217σ hr217 hs217 => ?_)
  dsimp only
  exact zr_of (zMod_term_b220_r N  _ hs217) (congrArg (Mod_term_b220 N) rfl)
def zMod_term_b207 (N : Nat) (s0 : Int) (σ : z_S) : Option (Int × z_S) := if (0 : Int) ≤ (σ.1 12) then zMod_term_b220 N σ else zMod_term_b215 N s0 σ
theorem zMod_term_b207_r (N : Nat) (s0 : Int) (hs0 : zin s0) (σ : z_S) (hσ : zR σ) : zrel (zMod_term_b207 N s0 σ) (Mod_term_b207 N (zI s0) (zo σ)) := by
  unfold zMod_term_b207 Mod_term_b207
  refine zr_ite (zI_le (zl_0) (zo_fld rfl 12) (by decide) (hσ.1 12)) ?_ ?_
  · exact zr_of (zMod_term_b220_r N  _ hσ) (congrArg (Mod_term_b220 N) rfl)
  · exact zr_of (zMod_term_b215_r N _ hs0 _ hσ) (congr (congrArg (Mod_term_b215 N) rfl) rfl)
def zMod_term_b201 (N : Nat) (x1 : Int) (s1 : Int) (σ : z_S) : Option (Int × z_S) := (zMod_node N s1 x1 0 0 σ).bind fun q204 => zMod_term_b207 N q204.1 q204.2
theorem zMod_term_b201_r (N : Nat) (x1 : Int) (hx1 : zin x1) (s1 : Int) (hs1 : zin s1) (σ : z_S) (hσ : zR σ) : zrel (zMod_term_b201 N x1 s1 σ) (Mod_term_b201 N (zI x1) (zI s1) (zo σ)) := by
  unfold zMod_term_b201 Mod_term_b201
  refine zr_bind (zr_of (zMod_node_r N _ hs1 _ hx1 _ (by decide) _ (by decide) _ hσ) (congr (congr (congr (congr (congrArg (Mod_node N) rfl) rfl) (zl_0)) (zl_0)) rfl)) (fun r204 s204σ hr204 hs204 => ?_)
  dsimp only
  exact zr_of (zMod_term_b207_r N _ hr204 _ hs204) (congr (congrArg (Mod_term_b207 N) rfl) rfl)
def zMod_term_b200 (N : Nat) (x1 : Int) (σ : z_S) : Option (Int × z_S) := zMod_term_b201 N x1 3 σ
theorem zMod_term_b200_r (N : Nat) (x1 : Int) (hx1 : zin x1) (σ : z_S) (hσ : zR σ) : zrel (zMod_term_b200 N x1 σ) (Mod_term_b200 N (zI x1) (zo σ)) := by
  unfold zMod_term_b200 Mod_term_b200
  exact zr_of (zMod_term_b201_r N _ hx1 _ (by decide) _ hσ) (congr (congr (congrArg (Mod_term_b201 N) rfl) (zl_3)) rfl)
def zMod_term_b196 (N : Nat) (x1 : Int) (σ : z_S) : Option (Int × z_S) := zMod_term_b201 N x1 4 σ
theorem zMod_term_b196_r (N : Nat) (x1 : Int) (hx1 : zin x1) (σ : z_S) (hσ : zR σ) : zrel (zMod_term_b196 N x1 σ) (Mod_term_b196 N (zI x1) (zo σ)) := by
  unfold zMod_term_b196 Mod_term_b196
  exact zr_of (zMod_term_b201_r N _ hx1 _ (by decide) _ hσ) (congr (congr (congrArg (Mod_term_b201 N) rfl) (zl_4)) rfl)
def zMod_term_b189 (N : Nat) (x1 : Int) (σ : z_S) : Option (Int × z_S) := if x1 = 46 then zMod_term_b196 N x1 σ else zMod_term_b200 N x1 σ
theorem zMod_term_b189_r (N : Nat) (x1 : Int) (hx1 : zin x1) (σ : z_S) (hσ : zR σ) : zrel (zMod_term_b189 N x1 σ) (Mod_term_b189 N (zI x1) (zo σ)) := by
  unfold zMod_term_b189 Mod_term_b189
  refine zr_ite (zI_eq rfl (zl_46) hx1 (by decide)) ?_ ?_
  · exact zr_of (zMod_term_b196_r N _ hx1 _ hσ) (congr (congrArg (Mod_term_b196 N) rfl) rfl)
  · exact zr_of (zMod_term_b200_r N _ hx1 _ hσ) (congr (congrArg (Mod_term_b200 N) rfl) rfl)
def zMod_term_b182 (N : Nat) (σ : z_S) : Option (Int × z_S) := (zMod_aClass N σ).bind fun q183 => zMod_term_b207 N q183.1 q183.2
theorem zMod_term_b182_r (N : Nat) (σ : z_S) (hσ : zR σ) : zrel (zMod_term_b182 N σ) (Mod_term_b182 N (zo σ)) := by
  unfold zMod_term_b182 Mod_term_b182
  refine zr_bind (zr_of (zMod_aClass_r N  _ hσ) (congrArg (Mod_aClass N) rfl)) (fun r183 s183σ hr183 hs183 => ?_)
  dsimp only
  exact zr_of (zMod_term_b207_r N _ hr183 _ hs183) (congr (congrArg (Mod_term_b207 N) rfl) rfl)
def zMod_term_b166 (N : Nat) (x1 : Int) (σ : z_S) : Option (Int × z_S) := if x1 = 91 then if zin ((σ.1 11) + 1) then zMod_term_b182 N (zF σ 11 ((σ.1 11) + 1)) else none else if zin ((σ.1 11) + 1) then zMod_term_b189 N x1 (zF σ 11 ((σ.1 11) + 1)) else none
theorem zMod_term_b166_r (N : Nat) (x1 : Int) (hx1 : zin x1) (σ : z_S) (hσ : zR σ) : zrel (zMod_term_b166 N x1 σ) (Mod_term_b166 N (zI x1) (zo σ)) := by
  unfold zMod_term_b166 Mod_term_b166
  refine zr_ite (zI_eq rfl (zl_91) hx1 (by decide)) ?_ ?_
  · refine zr_g (fun g1 => ?_)
    exact zr_of (zMod_term_b182_r N  _ (zR_F (k := 11) hσ g1)) (congrArg (Mod_term_b182 N) (zo_F (k := 11) rfl (zI_add (zo_fld rfl 11) (zl_1))))
  · refine zr_g (fun g2 => ?_)
    exact zr_of (zMod_term_b189_r N _ hx1 _ (zR_F (k := 11) hσ g2)) (congr (congrArg (Mod_term_b189 N) rfl) (zo_F (k := 11) rfl (zI_add (zo_fld rfl 11) (zl_1))))
def zMod_term_b149 (N : Nat) (x1 : Int) (σ : z_S) : Option (Int × z_S) := if x1 = 93 then zMod_term_b155 N σ else zMod_term_b166 N x1 σ
theorem zMod_term_b149_r (N : Nat) (x1 : Int) (hx1 : zin x1) (σ : z_S) (hσ : zR σ) : zrel (zMod_term_b149 N x1 σ) (Mod_term_b149 N (zI x1) (zo σ)) := by
  unfold zMod_term_b149 Mod_term_b149
  refine zr_ite (zI_eq rfl (zl_93) hx1 (by decide)) ?_ ?_
  · exact zr_of (zMod_term_b155_r N  _ hσ) (congrArg (Mod_term_b155 N) rfl)
  · exact zr_of (zMod_term_b166_r N _ hx1 _ hσ) (congr (congrArg (Mod_term_b166 N) rfl) rfl)
def zMod_term_b143 (N : Nat) (x1 : Int) (σ : z_S) : Option (Int × z_S) := if x1 = 125 then zMod_term_b155 N σ else zMod_term_b149 N x1 σ
theorem zMod_term_b143_r (N : Nat) (x1 : Int) (hx1 : zin x1) (σ : z_S) (hσ : zR σ) : zrel (zMod_term_b143 N x1 σ) (Mod_term_b143 N (zI x1) (zo σ)) := by
  unfold zMod_term_b143 Mod_term_b143
  refine zr_ite (zI_eq rfl (zl_125) hx1 (by decide)) ?_ ?_
  · exact zr_of (zMod_term_b155_r N  _ hσ) (congrArg (Mod_term_b155 N) rfl)
  · exact zr_of (zMod_term_b149_r N _ hx1 _ hσ) (congr (congrArg (Mod_term_b149 N) rfl) rfl)
def zMod_term_b137 (N : Nat) (x1 : Int) (σ : z_S) : Option (Int × z_S) := if x1 = 123 then zMod_term_b155 N σ else zMod_term_b143 N x1 σ
theorem zMod_term_b137_r (N : Nat) (x1 : Int) (hx1 : zin x1) (σ : z_S) (hσ : zR σ) : zrel (zMod_term_b137 N x1 σ) (Mod_term_b137 N (zI x1) (zo σ)) := by
  unfold zMod_term_b137 Mod_term_b137
  refine zr_ite (zI_eq rfl (zl_123) hx1 (by decide)) ?_ ?_
  · exact zr_of (zMod_term_b155_r N  _ hσ) (congrArg (Mod_term_b155 N) rfl)
  · exact zr_of (zMod_term_b143_r N _ hx1 _ hσ) (congr (congrArg (Mod_term_b143 N) rfl) rfl)
def zMod_term_b131 (N : Nat) (x1 : Int) (σ : z_S) : Option (Int × z_S) := if x1 = 63 then zMod_term_b155 N σ else zMod_term_b137 N x1 σ
theorem zMod_term_b131_r (N : Nat) (x1 : Int) (hx1 : zin x1) (σ : z_S) (hσ : zR σ) : zrel (zMod_term_b131 N x1 σ) (Mod_term_b131 N (zI x1) (zo σ)) := by
  unfold zMod_term_b131 Mod_term_b131
  refine zr_ite (zI_eq rfl (zl_63) hx1 (by decide)) ?_ ?_
  · exact zr_of (zMod_term_b155_r N  _ hσ) (congrArg (Mod_term_b155 N) rfl)
  · exact zr_of (zMod_term_b137_r N _ hx1 _ hσ) (congr (congrArg (Mod_term_b137 N) rfl) rfl)
def zMod_term_b125 (N : Nat) (x1 : Int) (σ : z_S) : Option (Int × z_S) := if x1 = 43 then zMod_term_b155 N σ else zMod_term_b131 N x1 σ
theorem zMod_term_b125_r (N : Nat) (x1 : Int) (hx1 : zin x1) (σ : z_S) (hσ : zR σ) : zrel (zMod_term_b125 N x1 σ) (Mod_term_b125 N (zI x1) (zo σ)) := by
  unfold zMod_term_b125 Mod_term_b125
  refine zr_ite (zI_eq rfl (zl_43) hx1 (by decide)) ?_ ?_
  · exact zr_of (zMod_term_b155_r N  _ hσ) (congrArg (Mod_term_b155 N) rfl)
  · exact zr_of (zMod_term_b131_r N _ hx1 _ hσ) (congr (congrArg (Mod_term_b131 N) rfl) rfl)
def zMod_term_b119 (N : Nat) (x1 : Int) (σ : z_S) : Option (Int × z_S) := if x1 = 42 then zMod_term_b155 N σ else zMod_term_b125 N x1 σ
theorem zMod_term_b119_r (N : Nat) (x1 : Int) (hx1 : zin x1) (σ : z_S) (hσ : zR σ) : zrel (zMod_term_b119 N x1 σ) (Mod_term_b119 N (zI x1) (zo σ)) := by
  unfold zMod_term_b119 Mod_term_b119
  refine zr_ite (zI_eq rfl (zl_42) hx1 (by decide)) ?_ ?_
  · exact zr_of (zMod_term_b155_r N  _ hσ) (congrArg (Mod_term_b155 N) rfl)
  · exact zr_of (zMod_term_b125_r N _ hx1 _ hσ) (congr (congrArg (Mod_term_b125 N) rfl) rfl)
def zMod_term_b112 (N : Nat) (σ : z_S) : Option (Int × z_S) := (zMod_escapedAtom N σ).bind fun q113 => zMod_term_b220 N q113.2
theorem zMod_term_b112_r (N : Nat) (σ : z_S) (hσ : zR σ) : zrel (zMod_term_b112 N σ) (Mod_term_b112 N (zo σ)) := by
  unfold zMod_term_b112 Mod_term_b112
  refine zr_bind (zr_of (zMod_escapedAtom_r N  _ hσ) (congrArg (Mod_escapedAtom N) rfl)) (fun r113 s113σ hr113 hs113 => ?_)
  dsimp only
  exact zr_of (zMod_term_b220_r N  _ hs113) (congrArg (Mod_term_b220 N) rfl)
def zMod_term_b106 (N : Nat) (x1 : Int) (σ : z_S) : Option (Int × z_S) := if x1 = 92 then zMod_term_b112 N σ else zMod_term_b119 N x1 σ
theorem zMod_term_b106_r (N : Nat) (x1 : Int) (hx1 : zin x1) (σ : z_S) (hσ : zR σ) : zrel (zMod_term_b106 N x1 σ) (Mod_term_b106 N (zI x1) (zo σ)) := by
  unfold zMod_term_b106 Mod_term_b106
  refine zr_ite (zI_eq rfl (zl_92) hx1 (by decide)) ?_ ?_
  · exact zr_of (zMod_term_b112_r N  _ hσ) (congrArg (Mod_term_b112 N) rfl)
  · exact zr_of (zMod_term_b119_r N _ hx1 _ hσ) (congr (congrArg (Mod_term_b119 N) rfl) rfl)
def zMod_term_b79 (N : Nat) (x1 : Int) (σ : z_S) : Option (Int × z_S) := if x1 = 36 then zMod_term_b85 N x1 σ else zMod_term_b106 N x1 σ
theorem zMod_term_b79_r (N : Nat) (x1 : Int) (hx1 : zin x1) (σ : z_S) (hσ : zR σ) : zrel (zMod_term_b79 N x1 σ) (Mod_term_b79 N (zI x1) (zo σ)) := by
  unfold zMod_term_b79 Mod_term_b79
  refine zr_ite (zI_eq rfl (zl_36) hx1 (by decide)) ?_ ?_
  · exact zr_of (zMod_term_b85_r N _ hx1 _ hσ) (congr (congrArg (Mod_term_b85 N) rfl) rfl)
  · exact zr_of (zMod_term_b106_r N _ hx1 _ hσ) (congr (congrArg (Mod_term_b106 N) rfl) rfl)
def zMod_term_b73 (N : Nat) (x1 : Int) (σ : z_S) : Option (Int × z_S) := if x1 = 94 then zMod_term_b85 N x1 σ else zMod_term_b79 N x1 σ
theorem zMod_term_b73_r (N : Nat) (x1 : Int) (hx1 : zin x1) (σ : z_S) (hσ : zR σ) : zrel (zMod_term_b73 N x1 σ) (Mod_term_b73 N (zI x1) (zo σ)) := by
  unfold zMod_term_b73 Mod_term_b73
  refine zr_ite (zI_eq rfl (zl_94) hx1 (by decide)) ?_ ?_
  · exact zr_of (zMod_term_b85_r N _ hx1 _ hσ) (congr (congrArg (Mod_term_b85 N) rfl) rfl)
  · exact zr_of (zMod_term_b79_r N _ hx1 _ hσ) (congr (congrArg (Mod_term_b79 N) rfl) rfl)
def zMod_term_b66 (N : Nat) (σ : z_S) : Option (Int × z_S) := (zMod_closeGroup N σ).bind fun q67 => zMod_term_b220 N q67.2
theorem zMod_term_b66_r (N : Nat) (σ : z_S) (hσ : zR σ) : zrel (zMod_term_b66 N σ) (Mod_term_b66 N (zo σ)) := by
  unfold zMod_term_b66 Mod_term_b66
  refine zr_bind (zr_of (zMod_closeGroup_r N  _ hσ) (congrArg (Mod_closeGroup N) rfl)) (fun r67 s67σ hr67 hs67 => ?_)
  dsimp only
  exact zr_of (zMod_term_b220_r N  _ hs67) (congrArg (Mod_term_b220 N) rfl)
def zMod_term_b55 (N : Nat) (σ : z_S) : Option (Int × z_S) := (zMod_fail N (σ.1 11) σ).bind fun q60 => zMod_term_b220 N q60.2
theorem zMod_term_b55_r (N : Nat) (σ : z_S) (hσ : zR σ) : zrel (zMod_term_b55 N σ) (Mod_term_b55 N (zo σ)) := by
  unfold zMod_term_b55 Mod_term_b55
  refine zr_bind (zr_of (zMod_fail_r N _ (hσ.1 11) _ hσ) (congr (congrArg (Mod_fail N) (zo_fld rfl 11)) rfl)) (fun r60 s60σ hr60 hs60 => ?_)
  dsimp only
  exact zr_of (zMod_term_b220_r N  _ hs60) (congrArg (Mod_term_b220 N) rfl)
def zMod_term_b48 (N : Nat) (σ : z_S) : Option (Int × z_S) := if (σ.1 14) = 0 then zMod_term_b55 N σ else zMod_term_b66 N σ
theorem zMod_term_b48_r (N : Nat) (σ : z_S) (hσ : zR σ) : zrel (zMod_term_b48 N σ) (Mod_term_b48 N (zo σ)) := by
  unfold zMod_term_b48 Mod_term_b48
  refine zr_ite (zI_eq (zo_fld rfl 14) (zl_0) (hσ.1 14) (by decide)) ?_ ?_
  · exact zr_of (zMod_term_b55_r N  _ hσ) (congrArg (Mod_term_b55 N) rfl)
  · exact zr_of (zMod_term_b66_r N  _ hσ) (congrArg (Mod_term_b66 N) rfl)
def zMod_term_b42 (N : Nat) (x1 : Int) (σ : z_S) : Option (Int × z_S) := if x1 = 41 then zMod_term_b48 N σ else zMod_term_b73 N x1 σ
theorem zMod_term_b42_r (N : Nat) (x1 : Int) (hx1 : zin x1) (σ : z_S) (hσ : zR σ) : zrel (zMod_term_b42 N x1 σ) (Mod_term_b42 N (zI x1) (zo σ)) := by
  unfold zMod_term_b42 Mod_term_b42
  refine zr_ite (zI_eq rfl (zl_41) hx1 (by decide)) ?_ ?_
  · exact zr_of (zMod_term_b48_r N  _ hσ) (congrArg (Mod_term_b48 N) rfl)
  · exact zr_of (zMod_term_b73_r N _ hx1 _ hσ) (congr (congrArg (Mod_term_b73 N) rfl) rfl)
def zMod_term_b35 (N : Nat) (σ : z_S) : Option (Int × z_S) := (zMod_openGroup N σ).bind fun q36 => zMod_term_b220 N q36.2
theorem zMod_term_b35_r (N : Nat) (σ : z_S) (hσ : zR σ) : zrel (zMod_term_b35 N σ) (Mod_term_b35 N (zo σ)) := by
  unfold zMod_term_b35 Mod_term_b35
  refine zr_bind (zr_of (zMod_openGroup_r N  _ hσ) (congrArg (Mod_openGroup N) rfl)) (fun r36 s36σ hr36 hs36 => ?_)
  dsimp only
  exact zr_of (zMod_term_b220_r N  _ hs36) (congrArg (Mod_term_b220 N) rfl)
def zMod_term_b29 (N : Nat) (x1 : Int) (σ : z_S) : Option (Int × z_S) := if x1 = 40 then zMod_term_b35 N σ else zMod_term_b42 N x1 σ
theorem zMod_term_b29_r (N : Nat) (x1 : Int) (hx1 : zin x1) (σ : z_S) (hσ : zR σ) : zrel (zMod_term_b29 N x1 σ) (Mod_term_b29 N (zI x1) (zo σ)) := by
  unfold zMod_term_b29 Mod_term_b29
  refine zr_ite (zI_eq rfl (zl_40) hx1 (by decide)) ?_ ?_
  · exact zr_of (zMod_term_b35_r N  _ hσ) (congrArg (Mod_term_b35 N) rfl)
  · exact zr_of (zMod_term_b42_r N _ hx1 _ hσ) (congr (congrArg (Mod_term_b42 N) rfl) rfl)
def zMod_term_b12 (N : Nat) (σ : z_S) : Option (Int × z_S) := if zin ((σ.1 11) + 1) then (zMod_newAlternative N (zF σ 11 ((σ.1 11) + 1))).bind fun q23 => zMod_term_b220 N q23.2 else none
theorem zMod_term_b12_r (N : Nat) (σ : z_S) (hσ : zR σ) : zrel (zMod_term_b12 N σ) (Mod_term_b12 N (zo σ)) := by
  unfold zMod_term_b12 Mod_term_b12
  refine zr_g (fun g1 => ?_)
  refine zr_bind (zr_of (zMod_newAlternative_r N  _ (zR_F (k := 11) hσ g1)) (congrArg (Mod_newAlternative N) (zo_F (k := 11) rfl (zI_add (zo_fld rfl 11) (zl_1))))) (fun r23 s23σ hr23 hs23 => ?_)
  dsimp only
  exact zr_of (zMod_term_b220_r N  _ hs23) (congrArg (Mod_term_b220 N) rfl)
def zMod_term_b0 (N : Nat) (σ : z_S) : Option (Int × z_S) := (zMod_see N 0 σ).bind fun q2 => if q2.1 = 124 then zMod_term_b12 N q2.2 else zMod_term_b29 N q2.1 q2.2
theorem zMod_term_b0_r (N : Nat) (σ : z_S) (hσ : zR σ) : zrel (zMod_term_b0 N σ) (Mod_term_b0 N (zo σ)) := by
  unfold zMod_term_b0 Mod_term_b0
  refine zr_bind (zr_of (zMod_see_r N _ (by decide) _ hσ) (congr (congrArg (Mod_see N) (zl_0)) rfl)) (fun r2 s2σ hr2 hs2 => ?_)
  dsimp only
  refine zr_ite (zI_eq rfl (zl_124) hr2 (by decide)) ?_ ?_
  · exact zr_of (zMod_term_b12_r N  _ hs2) (congrArg (Mod_term_b12 N) rfl)
  · exact zr_of (zMod_term_b29_r N _ hr2 _ hs2) (congr (congrArg (Mod_term_b29 N) rfl) rfl)
def zMod_term (N : Nat) (σ : z_S) : Option (Int × z_S) := zMod_term_b0 N σ
theorem zMod_term_r (N : Nat) (σ : z_S) (hσ : zR σ) : zrel (zMod_term N σ) (Mod_term N (zo σ)) := by
  unfold zMod_term Mod_term
  exact zr_of (zMod_term_b0_r N  _ hσ) (congrArg (Mod_term_b0 N) rfl)
def zMod_read_b125 (N : Nat) (σ : z_S) : Option (Int × z_S) := some (0, σ)
theorem zMod_read_b125_r (N : Nat) (σ : z_S) (hσ : zR σ) : zrel (zMod_read_b125 N σ) (Mod_read_b125 N (zo σ)) := by
  unfold zMod_read_b125 Mod_read_b125
  exact zr_some (zl_0) (by decide) rfl hσ
def zMod_read_b119 (N : Nat) (k77 : Int → z_S → Option (Int × z_S)) (x1 : Int) (σ : z_S) : Option (Int × z_S) := if zin (x1 + 1) then k77 (x1 + 1) σ else none
theorem zMod_read_b119_r (N : Nat) (k77 : Int → z_S → Option (Int × z_S)) (k77' : Int32 → g_S → Option (Int32 × g_S)) (hk77 : ∀ (y0 : Int) (_ : zin y0) (σ : z_S), zR σ → zrel (k77 y0 σ) (k77' (zI y0) (zo σ))) (x1 : Int) (hx1 : zin x1) (σ : z_S) (hσ : zR σ) : zrel (zMod_read_b119 N k77 x1 σ) (Mod_read_b119 N k77' (zI x1) (zo σ)) := by
  unfold zMod_read_b119 Mod_read_b119
  refine zr_g (fun g1 => ?_)
  exact zr_of (hk77 _ g1 _ hσ) (congr (congrArg (k77') (zI_add rfl (zl_1))) rfl)
def zMod_read_b109 (N : Nat) (k77 : Int → z_S → Option (Int × z_S)) (x1 : Int) (σ : z_S) : Option (Int × z_S) := if zIn x1 1300 then (zMod_fail N (σ.2 5 (x1).toNat) σ).bind fun q116 => zMod_read_b119 N k77 x1 q116.2 else none
theorem zMod_read_b109_r (N : Nat) (k77 : Int → z_S → Option (Int × z_S)) (k77' : Int32 → g_S → Option (Int32 × g_S)) (hk77 : ∀ (y0 : Int) (_ : zin y0) (σ : z_S), zR σ → zrel (k77 y0 σ) (k77' (zI y0) (zo σ))) (x1 : Int) (hx1 : zin x1) (σ : z_S) (hσ : zR σ) : zrel (zMod_read_b109 N k77 x1 σ) (Mod_read_b109 N k77' (zI x1) (zo σ)) := by
  unfold zMod_read_b109 Mod_read_b109
  refine zr_gg (zg_in rfl hx1) (fun g1 => ?_)
  refine zr_bind (zr_of (zMod_fail_r N _ (hσ.2 5 _) _ hσ) (congr (congrArg (Mod_fail N) (zo_get (j := 5) rfl rfl hx1)) rfl)) (fun r116 s116σ hr116 hs116 => ?_)
  dsimp only
  exact zr_of (zMod_read_b119_r N k77 k77' hk77 _ hx1 _ hs116) (congr (congrArg (Mod_read_b119 N k77') rfl) rfl)
def zMod_read_b96 (N : Nat) (k77 : Int → z_S → Option (Int × z_S)) (x1 : Int) (σ : z_S) : Option (Int × z_S) := if zIn x1 1300 then if (σ.2 4 (x1).toNat) ≤ (σ.1 9) then zMod_read_b119 N k77 x1 σ else zMod_read_b109 N k77 x1 σ else none
theorem zMod_read_b96_r (N : Nat) (k77 : Int → z_S → Option (Int × z_S)) (k77' : Int32 → g_S → Option (Int32 × g_S)) (hk77 : ∀ (y0 : Int) (_ : zin y0) (σ : z_S), zR σ → zrel (k77 y0 σ) (k77' (zI y0) (zo σ))) (x1 : Int) (hx1 : zin x1) (σ : z_S) (hσ : zR σ) : zrel (zMod_read_b96 N k77 x1 σ) (Mod_read_b96 N k77' (zI x1) (zo σ)) := by
  unfold zMod_read_b96 Mod_read_b96
  refine zr_gg (zg_in rfl hx1) (fun g1 => ?_)
  refine zr_ite (zI_le (zo_get (j := 4) rfl rfl hx1) (zo_fld rfl 9) (hσ.2 4 _) (hσ.1 9)) ?_ ?_
  · exact zr_of (zMod_read_b119_r N k77 k77' hk77 _ hx1 _ hσ) (congr (congrArg (Mod_read_b119 N k77') rfl) rfl)
  · exact zr_of (zMod_read_b109_r N k77 k77' hk77 _ hx1 _ hσ) (congr (congrArg (Mod_read_b109 N k77') rfl) rfl)
def zMod_read_b85 (N : Nat) (k77 : Int → z_S → Option (Int × z_S)) (x1 : Int) (σ : z_S) : Option (Int × z_S) := if zIn x1 1300 then if (σ.2 3 (x1).toNat) = 7 then zMod_read_b96 N k77 x1 σ else zMod_read_b119 N k77 x1 σ else none
theorem zMod_read_b85_r (N : Nat) (k77 : Int → z_S → Option (Int × z_S)) (k77' : Int32 → g_S → Option (Int32 × g_S)) (hk77 : ∀ (y0 : Int) (_ : zin y0) (σ : z_S), zR σ → zrel (k77 y0 σ) (k77' (zI y0) (zo σ))) (x1 : Int) (hx1 : zin x1) (σ : z_S) (hσ : zR σ) : zrel (zMod_read_b85 N k77 x1 σ) (Mod_read_b85 N k77' (zI x1) (zo σ)) := by
  unfold zMod_read_b85 Mod_read_b85
  refine zr_gg (zg_in rfl hx1) (fun g1 => ?_)
  refine zr_ite (zI_eq (zo_get (j := 3) rfl rfl hx1) (zl_7) (hσ.2 3 _) (by decide)) ?_ ?_
  · exact zr_of (zMod_read_b96_r N k77 k77' hk77 _ hx1 _ hσ) (congr (congrArg (Mod_read_b96 N k77') rfl) rfl)
  · exact zr_of (zMod_read_b119_r N k77 k77' hk77 _ hx1 _ hσ) (congr (congrArg (Mod_read_b119 N k77') rfl) rfl)
def zMod_read_b77 (N : Nat) (k77 : Int → z_S → Option (Int × z_S)) (x1 : Int) (σ : z_S) : Option (Int × z_S) := if (σ.1 8) ≤ x1 then zMod_read_b125 N σ else zMod_read_b85 N k77 x1 σ
theorem zMod_read_b77_r (N : Nat) (k77 : Int → z_S → Option (Int × z_S)) (k77' : Int32 → g_S → Option (Int32 × g_S)) (hk77 : ∀ (y0 : Int) (_ : zin y0) (σ : z_S), zR σ → zrel (k77 y0 σ) (k77' (zI y0) (zo σ))) (x1 : Int) (hx1 : zin x1) (σ : z_S) (hσ : zR σ) : zrel (zMod_read_b77 N k77 x1 σ) (Mod_read_b77 N k77' (zI x1) (zo σ)) := by
  unfold zMod_read_b77 Mod_read_b77
  refine zr_ite (zI_le (zo_fld rfl 8) rfl (hσ.1 8) hx1) ?_ ?_
  · exact zr_of (zMod_read_b125_r N  _ hσ) (congrArg (Mod_read_b125 N) rfl)
  · exact zr_of (zMod_read_b85_r N k77 k77' hk77 _ hx1 _ hσ) (congr (congrArg (Mod_read_b85 N k77') rfl) rfl)
def zMod_read_l77 (N : Nat) : Nat → Int → z_S → Option (Int × z_S)
  | 0 => fun _ _ => none
  | n + 1 => fun x1 σ => zMod_read_b77 N (zMod_read_l77 N n) x1 σ
theorem zMod_read_l77_r (N : Nat) (n : Nat) : ∀ (x1 : Int) (hx1 : zin x1) (σ : z_S) (_ : zR σ), zrel (zMod_read_l77 N n x1 σ) (Mod_read_l77 N n (zI x1) (zo σ)) := by
  induction n with
  | zero => intro x1 hx1 σ hσ r s h; cases h
  | succ n ih => intro x1 hx1 σ hσ; exact zMod_read_b77_r N _ _ (fun x1 hx1 σ hσ => ih x1 hx1 σ hσ) x1 hx1 σ hσ
def zMod_read_b75 (N : Nat) (σ : z_S) : Option (Int × z_S) := zMod_read_l77 N N 0 σ
theorem zMod_read_b75_r (N : Nat) (σ : z_S) (hσ : zR σ) : zrel (zMod_read_b75 N σ) (Mod_read_b75 N (zo σ)) := by
  unfold zMod_read_b75 Mod_read_b75
  exact zr_of (zMod_read_l77_r N N _ (by decide) _ hσ) (congr (congrArg (Mod_read_l77 N N) (zl_0)) rfl)
def zMod_read_b67 (N : Nat) (σ : z_S) : Option (Int × z_S) := (zMod_fail N (σ.1 2) σ).bind fun q72 => zMod_read_b75 N q72.2
theorem zMod_read_b67_r (N : Nat) (σ : z_S) (hσ : zR σ) : zrel (zMod_read_b67 N σ) (Mod_read_b67 N (zo σ)) := by
  unfold zMod_read_b67 Mod_read_b67
  refine zr_bind (zr_of (zMod_fail_r N _ (hσ.1 2) _ hσ) (congr (congrArg (Mod_fail N) (zo_fld rfl 2)) rfl)) (fun r72 s72σ hr72 hs72 => ?_)
  dsimp only
  exact zr_of (zMod_read_b75_r N  _ hs72) (congrArg (Mod_read_b75 N) rfl)
def zMod_read_b60 (N : Nat) (σ : z_S) : Option (Int × z_S) := if (σ.1 14) ≤ 0 then zMod_read_b75 N σ else zMod_read_b67 N σ
theorem zMod_read_b60_r (N : Nat) (σ : z_S) (hσ : zR σ) : zrel (zMod_read_b60 N σ) (Mod_read_b60 N (zo σ)) := by
  unfold zMod_read_b60 Mod_read_b60
  refine zr_ite (zI_le (zo_fld rfl 14) (zl_0) (hσ.1 14) (by decide)) ?_ ?_
  · exact zr_of (zMod_read_b75_r N  _ hσ) (congrArg (Mod_read_b75 N) rfl)
  · exact zr_of (zMod_read_b67_r N  _ hσ) (congrArg (Mod_read_b67 N) rfl)
def zMod_read_b53 (N : Nat) (k35 : z_S → Option (Int × z_S)) (σ : z_S) : Option (Int × z_S) := (zMod_term N σ).bind fun q54 => k35 q54.2
theorem zMod_read_b53_r (N : Nat) (k35 : z_S → Option (Int × z_S)) (k35' : g_S → Option (Int32 × g_S)) (hk35 : ∀  (σ : z_S), zR σ → zrel (k35  σ) (k35'  (zo σ))) (σ : z_S) (hσ : zR σ) : zrel (zMod_read_b53 N k35 σ) (Mod_read_b53 N k35' (zo σ)) := by
  unfold zMod_read_b53 Mod_read_b53
  refine zr_bind (zr_of (zMod_term_r N  _ hσ) (congrArg (Mod_term N) rfl)) (fun r54 s54σ hr54 hs54 => ?_)
  dsimp only
  exact zr_of (hk35  _ hs54) (congrArg (k35') rfl)
def zMod_read_b46 (N : Nat) (k35 : z_S → Option (Int × z_S)) (σ : z_S) : Option (Int × z_S) := if (0 : Int) ≤ (σ.1 12) then zMod_read_b60 N σ else zMod_read_b53 N k35 σ
theorem zMod_read_b46_r (N : Nat) (k35 : z_S → Option (Int × z_S)) (k35' : g_S → Option (Int32 × g_S)) (hk35 : ∀  (σ : z_S), zR σ → zrel (k35  σ) (k35'  (zo σ))) (σ : z_S) (hσ : zR σ) : zrel (zMod_read_b46 N k35 σ) (Mod_read_b46 N k35' (zo σ)) := by
  unfold zMod_read_b46 Mod_read_b46
  refine zr_ite (zI_le (zl_0) (zo_fld rfl 12) (by decide) (hσ.1 12)) ?_ ?_
  · exact zr_of (zMod_read_b60_r N  _ hσ) (congrArg (Mod_read_b60 N) rfl)
  · exact zr_of (zMod_read_b53_r N k35 k35' hk35  _ hσ) (congrArg (Mod_read_b53 N k35') rfl)
def zMod_read_b35 (N : Nat) (k35 : z_S → Option (Int × z_S)) (σ : z_S) : Option (Int × z_S) := if (σ.1 2) ≤ (σ.1 11) then zMod_read_b60 N σ else zMod_read_b46 N k35 σ
theorem zMod_read_b35_r (N : Nat) (k35 : z_S → Option (Int × z_S)) (k35' : g_S → Option (Int32 × g_S)) (hk35 : ∀  (σ : z_S), zR σ → zrel (k35  σ) (k35'  (zo σ))) (σ : z_S) (hσ : zR σ) : zrel (zMod_read_b35 N k35 σ) (Mod_read_b35 N k35' (zo σ)) := by
  unfold zMod_read_b35 Mod_read_b35
  refine zr_ite (zI_le (zo_fld rfl 2) (zo_fld rfl 11) (hσ.1 2) (hσ.1 11)) ?_ ?_
  · exact zr_of (zMod_read_b60_r N  _ hσ) (congrArg (Mod_read_b60 N) rfl)
  · exact zr_of (zMod_read_b46_r N k35 k35' hk35  _ hσ) (congrArg (Mod_read_b46 N k35') rfl)
def zMod_read_l35 (N : Nat) : Nat → z_S → Option (Int × z_S)
  | 0 => fun  _ => none
  | n + 1 => fun σ => zMod_read_b35 N (zMod_read_l35 N n) σ
theorem zMod_read_l35_r (N : Nat) (n : Nat) : ∀  (σ : z_S) (_ : zR σ), zrel (zMod_read_l35 N n σ) (Mod_read_l35 N n (zo σ)) := by
  induction n with
  | zero => intro  σ hσ r s h; cases h
  | succ n ih => intro  σ hσ; exact zMod_read_b35_r N _ _ (fun  σ hσ => ih  σ hσ)  σ hσ
def zMod_read_b0 (N : Nat) (σ : z_S) : Option (Int × z_S) := (zMod_opens N (-1) (zF (zF (zF (zF (zF (zF σ 8 0) 9 0) 10 0) 11 0) 12 (-1)) 14 0)).bind fun q32 => zMod_read_l35 N N q32.2
theorem zMod_read_b0_r (N : Nat) (σ : z_S) (hσ : zR σ) : zrel (zMod_read_b0 N σ) (Mod_read_b0 N (zo σ)) := by
  unfold zMod_read_b0 Mod_read_b0
  refine zr_bind (zr_of (zMod_opens_r N _ (by decide) _ (zR_F (k := 14) (zR_F (k := 12) (zR_F (k := 11) (zR_F (k := 10) (zR_F (k := 9) (zR_F (k := 8) hσ (by decide)) (by decide)) (by decide)) (by decide)) (by decide)) (by decide))) (congr (congrArg (Mod_opens N) (zl_m1)) (zo_F (k := 14) (zo_F (k := 12) (zo_F (k := 11) (zo_F (k := 10) (zo_F (k := 9) (zo_F (k := 8) rfl (zl_0)) (zl_0)) (zl_0)) (zl_0)) (zl_m1)) (zl_0)))) (fun r32 s32σ hr32 hs32 => ?_)
  dsimp only
  exact zr_of (zMod_read_l35_r N N  _ hs32) (congrArg (Mod_read_l35 N N) rfl)
def zMod_read (N : Nat) (σ : z_S) : Option (Int × z_S) := zMod_read_b0 N σ
theorem zMod_read_r (N : Nat) (σ : z_S) (hσ : zR σ) : zrel (zMod_read N σ) (Mod_read N (zo σ)) := by
  unfold zMod_read Mod_read
  exact zr_of (zMod_read_b0_r N  _ hσ) (congrArg (Mod_read_b0 N) rfl)
def zMod_pattern_b148 (N : Nat) (s0 : Int) (σ : z_S) : Option (Int × z_S) := some (s0, σ)
theorem zMod_pattern_b148_r (N : Nat) (s0 : Int) (hs0 : zin s0) (σ : z_S) (hσ : zR σ) : zrel (zMod_pattern_b148 N s0 σ) (Mod_pattern_b148 N (zI s0) (zo σ)) := by
  unfold zMod_pattern_b148 Mod_pattern_b148
  exact zr_some rfl hs0 rfl hσ
def zMod_pattern_b147 (N : Nat) (σ : z_S) : Option (Int × z_S) := zMod_pattern_b148 N 0 σ
theorem zMod_pattern_b147_r (N : Nat) (σ : z_S) (hσ : zR σ) : zrel (zMod_pattern_b147 N σ) (Mod_pattern_b147 N (zo σ)) := by
  unfold zMod_pattern_b147 Mod_pattern_b147
  exact zr_of (zMod_pattern_b148_r N _ (by decide) _ hσ) (congr (congrArg (Mod_pattern_b148 N) (zl_0)) rfl)
def zMod_pattern_b140 (N : Nat) (σ : z_S) : Option (Int × z_S) := zMod_pattern_b148 N (σ.1 9) σ
theorem zMod_pattern_b140_r (N : Nat) (σ : z_S) (hσ : zR σ) : zrel (zMod_pattern_b140 N σ) (Mod_pattern_b140 N (zo σ)) := by
  unfold zMod_pattern_b140 Mod_pattern_b140
  exact zr_of (zMod_pattern_b148_r N _ (hσ.1 9) _ hσ) (congr (congrArg (Mod_pattern_b148 N) (zo_fld rfl 9)) rfl)
def zMod_pattern_b130 (N : Nat) (s1 : Int) (σ : z_S) : Option (Int × z_S) := if (σ.1 5) = 0 then zMod_pattern_b147 N (zF σ 0 s1) else zMod_pattern_b140 N (zF σ 0 s1)
theorem zMod_pattern_b130_r (N : Nat) (s1 : Int) (hs1 : zin s1) (σ : z_S) (hσ : zR σ) : zrel (zMod_pattern_b130 N s1 σ) (Mod_pattern_b130 N (zI s1) (zo σ)) := by
  unfold zMod_pattern_b130 Mod_pattern_b130
  refine zr_ite (zI_eq (zo_fld rfl 5) (zl_0) (hσ.1 5) (by decide)) ?_ ?_
  · exact zr_of (zMod_pattern_b147_r N  _ (zR_F (k := 0) hσ hs1)) (congrArg (Mod_pattern_b147 N) (zo_F (k := 0) rfl rfl))
  · exact zr_of (zMod_pattern_b140_r N  _ (zR_F (k := 0) hσ hs1)) (congrArg (Mod_pattern_b140 N) (zo_F (k := 0) rfl rfl))
def zMod_pattern_b129 (N : Nat) (σ : z_S) : Option (Int × z_S) := zMod_pattern_b130 N 1 σ
theorem zMod_pattern_b129_r (N : Nat) (σ : z_S) (hσ : zR σ) : zrel (zMod_pattern_b129 N σ) (Mod_pattern_b129 N (zo σ)) := by
  unfold zMod_pattern_b129 Mod_pattern_b129
  exact zr_of (zMod_pattern_b130_r N _ (by decide) _ hσ) (congr (congrArg (Mod_pattern_b130 N) (zl_1)) rfl)
def zMod_pattern_b125 (N : Nat) (σ : z_S) : Option (Int × z_S) := zMod_pattern_b130 N 0 σ
theorem zMod_pattern_b125_r (N : Nat) (σ : z_S) (hσ : zR σ) : zrel (zMod_pattern_b125 N σ) (Mod_pattern_b125 N (zo σ)) := by
  unfold zMod_pattern_b125 Mod_pattern_b125
  exact zr_of (zMod_pattern_b130_r N _ (by decide) _ hσ) (congr (congrArg (Mod_pattern_b130 N) (zl_0)) rfl)
def zMod_pattern_b114 (N : Nat) (s1 : Int) (σ : z_S) : Option (Int × z_S) := if zB s1 then if s1 = 0 then zMod_pattern_b129 N (zF σ 5 s1) else zMod_pattern_b125 N (zF σ 5 s1) else none
theorem zMod_pattern_b114_r (N : Nat) (s1 : Int) (hs1 : zin s1) (σ : z_S) (hσ : zR σ) : zrel (zMod_pattern_b114 N s1 σ) (Mod_pattern_b114 N (zI s1) (zo σ)) := by
  unfold zMod_pattern_b114 Mod_pattern_b114
  refine zr_gg (zg_B rfl) (fun g1 => ?_)
  refine zr_ite (zI_eq rfl (zl_0) hs1 (by decide)) ?_ ?_
  · exact zr_of (zMod_pattern_b129_r N  _ (zR_F (k := 5) hσ hs1)) (congrArg (Mod_pattern_b129 N) (zo_F (k := 5) rfl rfl))
  · exact zr_of (zMod_pattern_b125_r N  _ (zR_F (k := 5) hσ hs1)) (congrArg (Mod_pattern_b125 N) (zo_F (k := 5) rfl rfl))
def zMod_pattern_b113 (N : Nat) (σ : z_S) : Option (Int × z_S) := zMod_pattern_b114 N 0 σ
theorem zMod_pattern_b113_r (N : Nat) (σ : z_S) (hσ : zR σ) : zrel (zMod_pattern_b113 N σ) (Mod_pattern_b113 N (zo σ)) := by
  unfold zMod_pattern_b113 Mod_pattern_b113
  exact zr_of (zMod_pattern_b114_r N _ (by decide) _ hσ) (congr (congrArg (Mod_pattern_b114 N) (zl_0)) rfl)
def zMod_pattern_b109 (N : Nat) (σ : z_S) : Option (Int × z_S) := zMod_pattern_b114 N 1 σ
theorem zMod_pattern_b109_r (N : Nat) (σ : z_S) (hσ : zR σ) : zrel (zMod_pattern_b109 N σ) (Mod_pattern_b109 N (zo σ)) := by
  unfold zMod_pattern_b109 Mod_pattern_b109
  exact zr_of (zMod_pattern_b114_r N _ (by decide) _ hσ) (congr (congrArg (Mod_pattern_b114 N) (zl_1)) rfl)
def zMod_pattern_b101 (N : Nat) (σ : z_S) : Option (Int × z_S) := if (0 : Int) ≤ (σ.1 6) then zMod_pattern_b113 N σ else zMod_pattern_b109 N σ
theorem zMod_pattern_b101_r (N : Nat) (σ : z_S) (hσ : zR σ) : zrel (zMod_pattern_b101 N σ) (Mod_pattern_b101 N (zo σ)) := by
  unfold zMod_pattern_b101 Mod_pattern_b101
  refine zr_ite (zI_le (zl_0) (zo_fld rfl 6) (by decide) (hσ.1 6)) ?_ ?_
  · exact zr_of (zMod_pattern_b113_r N  _ hσ) (congrArg (Mod_pattern_b113 N) rfl)
  · exact zr_of (zMod_pattern_b109_r N  _ hσ) (congrArg (Mod_pattern_b109 N) rfl)
def zMod_pattern_b79 (N : Nat) (x1 : Int) (x2 : Int) (σ : z_S) : Option (Int × z_S) := if zB x1 then if zB x2 then (zMod_read N (zF (zF σ 3 x1) 4 x2)).bind fun q90 => zMod_pattern_b101 N (zF q90.2 6 (q90.2.1 12)) else none else none
theorem zMod_pattern_b79_r (N : Nat) (x1 : Int) (hx1 : zin x1) (x2 : Int) (hx2 : zin x2) (σ : z_S) (hσ : zR σ) : zrel (zMod_pattern_b79 N x1 x2 σ) (Mod_pattern_b79 N (zI x1) (zI x2) (zo σ)) := by
  unfold zMod_pattern_b79 Mod_pattern_b79
  refine zr_gg (zg_B rfl) (fun g1 => ?_)
  refine zr_gg (zg_B rfl) (fun g2 => ?_)
  refine zr_bind (zr_of (zMod_read_r N  _ (zR_F (k := 4) (zR_F (k := 3) hσ hx1) hx2)) (congrArg (Mod_read N) (zo_F (k := 4) (zo_F (k := 3) rfl rfl) rfl))) (fun r90 s90σ hr90 hs90 => ?_)
  dsimp only
  exact zr_of (zMod_pattern_b101_r N  _ (zR_F (k := 6) hs90 (hs90.1 12))) (congrArg (Mod_pattern_b101 N) (zo_F (k := 6) rfl (zo_fld rfl 12)))
def zMod_pattern_b61 (N : Nat) (k53 : Int → Int → Int → z_S → Option (Int × z_S)) (x1 : Int) (x2 : Int) (x3 : Int) (σ : z_S) : Option (Int × z_S) := if zIn x3 600 then if zIn x3 200 then if zin (x3 + 1) then k53 x1 x2 (x3 + 1) (zA σ 1 (x3).toNat (σ.2 0 (x3).toNat)) else none else none else none
theorem zMod_pattern_b61_r (N : Nat) (k53 : Int → Int → Int → z_S → Option (Int × z_S)) (k53' : Int32 → Int32 → Int32 → g_S → Option (Int32 × g_S)) (hk53 : ∀ (y0 : Int) (_ : zin y0) (y1 : Int) (_ : zin y1) (y2 : Int) (_ : zin y2) (σ : z_S), zR σ → zrel (k53 y0 y1 y2 σ) (k53' (zI y0) (zI y1) (zI y2) (zo σ))) (x1 : Int) (hx1 : zin x1) (x2 : Int) (hx2 : zin x2) (x3 : Int) (hx3 : zin x3) (σ : z_S) (hσ : zR σ) : zrel (zMod_pattern_b61 N k53 x1 x2 x3 σ) (Mod_pattern_b61 N k53' (zI x1) (zI x2) (zI x3) (zo σ)) := by
  unfold zMod_pattern_b61 Mod_pattern_b61
  refine zr_gg (zg_in rfl hx3) (fun g1 => ?_)
  refine zr_gg (zg_in rfl hx3) (fun g2 => ?_)
  refine zr_g (fun g3 => ?_)
  exact zr_of (hk53 _ hx1 _ hx2 _ g3 _ (zR_A (a := 1) (i := _) hσ (hσ.2 0 _))) (congr (congr (congr (congrArg (k53') rfl) rfl) (zI_add rfl (zl_1))) (zo_A (a := 1) rfl rfl hx3 (zo_get (j := 0) rfl rfl hx3)))
def zMod_pattern_b53 (N : Nat) (k53 : Int → Int → Int → z_S → Option (Int × z_S)) (x1 : Int) (x2 : Int) (x3 : Int) (σ : z_S) : Option (Int × z_S) := if (σ.1 2) ≤ x3 then zMod_pattern_b79 N x1 x2 σ else zMod_pattern_b61 N k53 x1 x2 x3 σ
theorem zMod_pattern_b53_r (N : Nat) (k53 : Int → Int → Int → z_S → Option (Int × z_S)) (k53' : Int32 → Int32 → Int32 → g_S → Option (Int32 × g_S)) (hk53 : ∀ (y0 : Int) (_ : zin y0) (y1 : Int) (_ : zin y1) (y2 : Int) (_ : zin y2) (σ : z_S), zR σ → zrel (k53 y0 y1 y2 σ) (k53' (zI y0) (zI y1) (zI y2) (zo σ))) (x1 : Int) (hx1 : zin x1) (x2 : Int) (hx2 : zin x2) (x3 : Int) (hx3 : zin x3) (σ : z_S) (hσ : zR σ) : zrel (zMod_pattern_b53 N k53 x1 x2 x3 σ) (Mod_pattern_b53 N k53' (zI x1) (zI x2) (zI x3) (zo σ)) := by
  unfold zMod_pattern_b53 Mod_pattern_b53
  refine zr_ite (zI_le (zo_fld rfl 2) rfl (hσ.1 2) hx3) ?_ ?_
  · exact zr_of (zMod_pattern_b79_r N _ hx1 _ hx2 _ hσ) (congr (congr (congrArg (Mod_pattern_b79 N) rfl) rfl) rfl)
  · exact zr_of (zMod_pattern_b61_r N k53 k53' hk53 _ hx1 _ hx2 _ hx3 _ hσ) (congr (congr (congr (congrArg (Mod_pattern_b61 N k53') rfl) rfl) rfl) rfl)
def zMod_pattern_l53 (N : Nat) : Nat → Int → Int → Int → z_S → Option (Int × z_S)
  | 0 => fun _ _ _ _ => none
  | n + 1 => fun x1 x2 x3 σ => zMod_pattern_b53 N (zMod_pattern_l53 N n) x1 x2 x3 σ
theorem zMod_pattern_l53_r (N : Nat) (n : Nat) : ∀ (x1 : Int) (hx1 : zin x1) (x2 : Int) (hx2 : zin x2) (x3 : Int) (hx3 : zin x3) (σ : z_S) (_ : zR σ), zrel (zMod_pattern_l53 N n x1 x2 x3 σ) (Mod_pattern_l53 N n (zI x1) (zI x2) (zI x3) (zo σ)) := by
  induction n with
  | zero => intro x1 hx1 x2 hx2 x3 hx3 σ hσ r s h; cases h
  | succ n ih => intro x1 hx1 x2 hx2 x3 hx3 σ hσ; exact zMod_pattern_b53_r N _ _ (fun x1 hx1 x2 hx2 x3 hx3 σ hσ => ih x1 hx1 x2 hx2 x3 hx3 σ hσ) x1 hx1 x2 hx2 x3 hx3 σ hσ
def zMod_pattern_b51 (N : Nat) (x1 : Int) (x2 : Int) (σ : z_S) : Option (Int × z_S) := zMod_pattern_l53 N N x1 x2 0 σ
theorem zMod_pattern_b51_r (N : Nat) (x1 : Int) (hx1 : zin x1) (x2 : Int) (hx2 : zin x2) (σ : z_S) (hσ : zR σ) : zrel (zMod_pattern_b51 N x1 x2 σ) (Mod_pattern_b51 N (zI x1) (zI x2) (zo σ)) := by
  unfold zMod_pattern_b51 Mod_pattern_b51
  exact zr_of (zMod_pattern_l53_r N N _ hx1 _ hx2 _ (by decide) _ hσ) (congr (congr (congr (congrArg (Mod_pattern_l53 N N) rfl) rfl) (zl_0)) rfl)
def zMod_pattern_b41 (N : Nat) (x1 : Int) (x2 : Int) (s1 : Int) (σ : z_S) : Option (Int × z_S) := if (0 : Int) ≤ s1 then zMod_pattern_b101 N (zF σ 6 s1) else zMod_pattern_b51 N x1 x2 (zF σ 6 s1)
theorem zMod_pattern_b41_r (N : Nat) (x1 : Int) (hx1 : zin x1) (x2 : Int) (hx2 : zin x2) (s1 : Int) (hs1 : zin s1) (σ : z_S) (hσ : zR σ) : zrel (zMod_pattern_b41 N x1 x2 s1 σ) (Mod_pattern_b41 N (zI x1) (zI x2) (zI s1) (zo σ)) := by
  unfold zMod_pattern_b41 Mod_pattern_b41
  refine zr_ite (zI_le (zl_0) rfl (by decide) hs1) ?_ ?_
  · exact zr_of (zMod_pattern_b101_r N  _ (zR_F (k := 6) hσ hs1)) (congrArg (Mod_pattern_b101 N) (zo_F (k := 6) rfl rfl))
  · exact zr_of (zMod_pattern_b51_r N _ hx1 _ hx2 _ (zR_F (k := 6) hσ hs1)) (congr (congr (congrArg (Mod_pattern_b51 N) rfl) rfl) (zo_F (k := 6) rfl rfl))
def zMod_pattern_b40 (N : Nat) (x1 : Int) (x2 : Int) (σ : z_S) : Option (Int × z_S) := zMod_pattern_b41 N x1 x2 (-1) σ
theorem zMod_pattern_b40_r (N : Nat) (x1 : Int) (hx1 : zin x1) (x2 : Int) (hx2 : zin x2) (σ : z_S) (hσ : zR σ) : zrel (zMod_pattern_b40 N x1 x2 σ) (Mod_pattern_b40 N (zI x1) (zI x2) (zo σ)) := by
  unfold zMod_pattern_b40 Mod_pattern_b40
  exact zr_of (zMod_pattern_b41_r N _ hx1 _ hx2 _ (by decide) _ hσ) (congr (congr (congr (congrArg (Mod_pattern_b41 N) rfl) rfl) (zl_m1)) rfl)
def zMod_pattern_b34 (N : Nat) (x1 : Int) (x2 : Int) (σ : z_S) : Option (Int × z_S) := zMod_pattern_b41 N x1 x2 200 σ
theorem zMod_pattern_b34_r (N : Nat) (x1 : Int) (hx1 : zin x1) (x2 : Int) (hx2 : zin x2) (σ : z_S) (hσ : zR σ) : zrel (zMod_pattern_b34 N x1 x2 σ) (Mod_pattern_b34 N (zI x1) (zI x2) (zo σ)) := by
  unfold zMod_pattern_b34 Mod_pattern_b34
  exact zr_of (zMod_pattern_b41_r N _ hx1 _ hx2 _ (by decide) _ hσ) (congr (congr (congr (congrArg (Mod_pattern_b41 N) rfl) rfl) (zl_200)) rfl)
def zMod_pattern_b0 (N : Nat) (x1 : Int) (x2 : Int) (σ : z_S) : Option (Int × z_S) := if (σ.1 1) ≤ 200 then zMod_pattern_b40 N x1 x2 (zF (zF (zF (zF σ 15 0) 5 0) 2 (σ.1 1)) 1 0) else zMod_pattern_b34 N x1 x2 (zF (zF (zF (zF σ 15 0) 5 0) 2 (σ.1 1)) 1 0)
theorem zMod_pattern_b0_r (N : Nat) (x1 : Int) (hx1 : zin x1) (x2 : Int) (hx2 : zin x2) (σ : z_S) (hσ : zR σ) : zrel (zMod_pattern_b0 N x1 x2 σ) (Mod_pattern_b0 N (zI x1) (zI x2) (zo σ)) := by
  unfold zMod_pattern_b0 Mod_pattern_b0
  refine zr_ite (zI_le (zo_fld rfl 1) (zl_200) (hσ.1 1) (by decide)) ?_ ?_
  · exact zr_of (zMod_pattern_b40_r N _ hx1 _ hx2 _ (zR_F (k := 1) (zR_F (k := 2) (zR_F (k := 5) (zR_F (k := 15) hσ (by decide)) (by decide)) (hσ.1 1)) (by decide))) (congr (congr (congrArg (Mod_pattern_b40 N) rfl) rfl) (zo_F (k := 1) (zo_F (k := 2) (zo_F (k := 5) (zo_F (k := 15) rfl (zl_0)) (zl_0)) (zo_fld rfl 1)) (zl_0)))
  · exact zr_of (zMod_pattern_b34_r N _ hx1 _ hx2 _ (zR_F (k := 1) (zR_F (k := 2) (zR_F (k := 5) (zR_F (k := 15) hσ (by decide)) (by decide)) (hσ.1 1)) (by decide))) (congr (congr (congrArg (Mod_pattern_b34 N) rfl) rfl) (zo_F (k := 1) (zo_F (k := 2) (zo_F (k := 5) (zo_F (k := 15) rfl (zl_0)) (zl_0)) (zo_fld rfl 1)) (zl_0)))
def zMod_pattern (N : Nat) (x1 : Int) (x2 : Int) (σ : z_S) : Option (Int × z_S) := zMod_pattern_b0 N x1 x2 σ
theorem zMod_pattern_r (N : Nat) (x1 : Int) (hx1 : zin x1) (x2 : Int) (hx2 : zin x2) (σ : z_S) (hσ : zR σ) : zrel (zMod_pattern N x1 x2 σ) (Mod_pattern N (zI x1) (zI x2) (zo σ)) := by
  unfold zMod_pattern Mod_pattern
  exact zr_of (zMod_pattern_b0_r N _ hx1 _ hx2 _ hσ) (congr (congr (congrArg (Mod_pattern_b0 N) rfl) rfl) rfl)
def zMod_place_b0 (N : Nat) (σ : z_S) : Option (Int × z_S) := some ((σ.1 6), (zF σ 0 0))
theorem zMod_place_b0_r (N : Nat) (σ : z_S) (hσ : zR σ) : zrel (zMod_place_b0 N σ) (Mod_place_b0 N (zo σ)) := by
  unfold zMod_place_b0 Mod_place_b0
  exact zr_some (zo_fld rfl 6) (hσ.1 6) (zo_F (k := 0) rfl (zl_0)) (zR_F (k := 0) hσ (by decide))
def zMod_place (N : Nat) (σ : z_S) : Option (Int × z_S) := zMod_place_b0 N σ
theorem zMod_place_r (N : Nat) (σ : z_S) (hσ : zR σ) : zrel (zMod_place N σ) (Mod_place N (zo σ)) := by
  unfold zMod_place Mod_place
  exact zr_of (zMod_place_b0_r N  _ hσ) (congrArg (Mod_place_b0 N) rfl)
def zMod_text_b46 (N : Nat) (σ : z_S) : Option (Int × z_S) := some ((σ.1 7), (zF σ 1 0))
theorem zMod_text_b46_r (N : Nat) (σ : z_S) (hσ : zR σ) : zrel (zMod_text_b46 N σ) (Mod_text_b46 N (zo σ)) := by
  unfold zMod_text_b46 Mod_text_b46
  exact zr_some (zo_fld rfl 7) (hσ.1 7) (zo_F (k := 1) rfl (zl_0)) (zR_F (k := 1) hσ (by decide))
def zMod_text_b28 (N : Nat) (k20 : Int → z_S → Option (Int × z_S)) (x1 : Int) (σ : z_S) : Option (Int × z_S) := if zIn x1 600 then if zin (x1 + 1) then k20 (x1 + 1) (zA σ 2 (x1).toNat (σ.2 0 (x1).toNat)) else none else none
theorem zMod_text_b28_r (N : Nat) (k20 : Int → z_S → Option (Int × z_S)) (k20' : Int32 → g_S → Option (Int32 × g_S)) (hk20 : ∀ (y0 : Int) (_ : zin y0) (σ : z_S), zR σ → zrel (k20 y0 σ) (k20' (zI y0) (zo σ))) (x1 : Int) (hx1 : zin x1) (σ : z_S) (hσ : zR σ) : zrel (zMod_text_b28 N k20 x1 σ) (Mod_text_b28 N k20' (zI x1) (zo σ)) := by
  unfold zMod_text_b28 Mod_text_b28
  refine zr_gg (zg_in rfl hx1) (fun g1 => ?_)
  refine zr_g (fun g2 => ?_)
  exact zr_of (hk20 _ g2 _ (zR_A (a := 2) (i := _) hσ (hσ.2 0 _))) (congr (congrArg (k20') (zI_add rfl (zl_1))) (zo_A (a := 2) rfl rfl hx1 (zo_get (j := 0) rfl rfl hx1)))
def zMod_text_b20 (N : Nat) (k20 : Int → z_S → Option (Int × z_S)) (x1 : Int) (σ : z_S) : Option (Int × z_S) := if (σ.1 7) ≤ x1 then zMod_text_b46 N σ else zMod_text_b28 N k20 x1 σ
theorem zMod_text_b20_r (N : Nat) (k20 : Int → z_S → Option (Int × z_S)) (k20' : Int32 → g_S → Option (Int32 × g_S)) (hk20 : ∀ (y0 : Int) (_ : zin y0) (σ : z_S), zR σ → zrel (k20 y0 σ) (k20' (zI y0) (zo σ))) (x1 : Int) (hx1 : zin x1) (σ : z_S) (hσ : zR σ) : zrel (zMod_text_b20 N k20 x1 σ) (Mod_text_b20 N k20' (zI x1) (zo σ)) := by
  unfold zMod_text_b20 Mod_text_b20
  refine zr_ite (zI_le (zo_fld rfl 7) rfl (hσ.1 7) hx1) ?_ ?_
  · exact zr_of (zMod_text_b46_r N  _ hσ) (congrArg (Mod_text_b46 N) rfl)
  · exact zr_of (zMod_text_b28_r N k20 k20' hk20 _ hx1 _ hσ) (congr (congrArg (Mod_text_b28 N k20') rfl) rfl)
def zMod_text_l20 (N : Nat) : Nat → Int → z_S → Option (Int × z_S)
  | 0 => fun _ _ => none
  | n + 1 => fun x1 σ => zMod_text_b20 N (zMod_text_l20 N n) x1 σ
theorem zMod_text_l20_r (N : Nat) (n : Nat) : ∀ (x1 : Int) (hx1 : zin x1) (σ : z_S) (_ : zR σ), zrel (zMod_text_l20 N n x1 σ) (Mod_text_l20 N n (zI x1) (zo σ)) := by
  induction n with
  | zero => intro x1 hx1 σ hσ r s h; cases h
  | succ n ih => intro x1 hx1 σ hσ; exact zMod_text_b20_r N _ _ (fun x1 hx1 σ hσ => ih x1 hx1 σ hσ) x1 hx1 σ hσ
def zMod_text_b0 (N : Nat) (σ : z_S) : Option (Int × z_S) := zMod_text_l20 N N 0 (zF (zF (zF σ 0 0) 15 0) 7 (σ.1 1))
theorem zMod_text_b0_r (N : Nat) (σ : z_S) (hσ : zR σ) : zrel (zMod_text_b0 N σ) (Mod_text_b0 N (zo σ)) := by
  unfold zMod_text_b0 Mod_text_b0
  exact zr_of (zMod_text_l20_r N N _ (by decide) _ (zR_F (k := 7) (zR_F (k := 15) (zR_F (k := 0) hσ (by decide)) (by decide)) (hσ.1 1))) (congr (congrArg (Mod_text_l20 N N) (zl_0)) (zo_F (k := 7) (zo_F (k := 15) (zo_F (k := 0) rfl (zl_0)) (zl_0)) (zo_fld rfl 1)))
def zMod_text (N : Nat) (σ : z_S) : Option (Int × z_S) := zMod_text_b0 N σ
theorem zMod_text_r (N : Nat) (σ : z_S) (hσ : zR σ) : zrel (zMod_text N σ) (Mod_text N (zo σ)) := by
  unfold zMod_text Mod_text
  exact zr_of (zMod_text_b0_r N  _ hσ) (congrArg (Mod_text_b0 N) rfl)
def zMod_row_b0 (N : Nat) (x1 : Int) (x2 : Int) (x3 : Int) (x4 : Int) (x5 : Int) (x6 : Int) (σ : z_S) : Option (Int × z_S) := if zIn (σ.1 18) 90000 then if zin ((σ.1 18) + 1) then if zin (((σ.1 18) + 1) - 1) then some ((((σ.1 18) + 1) - 1), (zF (zA (zA (zA (zA (zA (zA σ 18 ((σ.1 18)).toNat x1) 19 ((σ.1 18)).toNat x2) 20 ((σ.1 18)).toNat x3) 21 ((σ.1 18)).toNat x4) 22 ((σ.1 18)).toNat x5) 23 ((σ.1 18)).toNat x6) 18 ((σ.1 18) + 1))) else none else none else none
theorem zMod_row_b0_r (N : Nat) (x1 : Int) (hx1 : zin x1) (x2 : Int) (hx2 : zin x2) (x3 : Int) (hx3 : zin x3) (x4 : Int) (hx4 : zin x4) (x5 : Int) (hx5 : zin x5) (x6 : Int) (hx6 : zin x6) (σ : z_S) (hσ : zR σ) : zrel (zMod_row_b0 N x1 x2 x3 x4 x5 x6 σ) (Mod_row_b0 N (zI x1) (zI x2) (zI x3) (zI x4) (zI x5) (zI x6) (zo σ)) := by
  unfold zMod_row_b0 Mod_row_b0
  refine zr_gg (zg_in (zo_fld rfl 18) (hσ.1 18)) (fun g1 => ?_)
  refine zr_g (fun g2 => ?_)
  refine zr_g (fun g3 => ?_)
  exact zr_some (zI_sub (zI_add (zo_fld rfl 18) (zl_1)) (zl_1)) g3 (zo_F (k := 18) (zo_A (a := 23) (zo_A (a := 22) (zo_A (a := 21) (zo_A (a := 20) (zo_A (a := 19) (zo_A (a := 18) rfl (zo_fld rfl 18) (hσ.1 18) rfl) (zo_fld rfl 18) (hσ.1 18) rfl) (zo_fld rfl 18) (hσ.1 18) rfl) (zo_fld rfl 18) (hσ.1 18) rfl) (zo_fld rfl 18) (hσ.1 18) rfl) (zo_fld rfl 18) (hσ.1 18) rfl) (zI_add (zo_fld rfl 18) (zl_1))) (zR_F (k := 18) (zR_A (a := 23) (i := _) (zR_A (a := 22) (i := _) (zR_A (a := 21) (i := _) (zR_A (a := 20) (i := _) (zR_A (a := 19) (i := _) (zR_A (a := 18) (i := _) hσ hx1) hx2) hx3) hx4) hx5) hx6) g2)
def zMod_row (N : Nat) (x1 : Int) (x2 : Int) (x3 : Int) (x4 : Int) (x5 : Int) (x6 : Int) (σ : z_S) : Option (Int × z_S) := zMod_row_b0 N x1 x2 x3 x4 x5 x6 σ
theorem zMod_row_r (N : Nat) (x1 : Int) (hx1 : zin x1) (x2 : Int) (hx2 : zin x2) (x3 : Int) (hx3 : zin x3) (x4 : Int) (hx4 : zin x4) (x5 : Int) (hx5 : zin x5) (x6 : Int) (hx6 : zin x6) (σ : z_S) (hσ : zR σ) : zrel (zMod_row N x1 x2 x3 x4 x5 x6 σ) (Mod_row N (zI x1) (zI x2) (zI x3) (zI x4) (zI x5) (zI x6) (zo σ)) := by
  unfold zMod_row Mod_row
  exact zr_of (zMod_row_b0_r N _ hx1 _ hx2 _ hx3 _ hx4 _ hx5 _ hx6 _ hσ) (congr (congr (congr (congr (congr (congr (congrArg (Mod_row_b0 N) rfl) rfl) rfl) rfl) rfl) rfl) rfl)
