def zMod_holds_b152 (N : Nat) (s0 : Int) (σ : z_S) : Option (Int × z_S) := if zB s0 then some (s0, σ) else none
theorem zMod_holds_b152_r (N : Nat) (s0 : Int) (hs0 : zin s0) (σ : z_S) (hσ : zR σ) : zrel (zMod_holds_b152 N s0 σ) (Mod_holds_b152 N (zI s0) (zo σ)) := by
  unfold zMod_holds_b152 Mod_holds_b152
  refine zr_gg (zg_B rfl) (fun g1 => ?_)
  exact zr_some rfl hs0 rfl hσ
def zMod_holds_b151 (N : Nat) (σ : z_S) : Option (Int × z_S) := zMod_holds_b152 N 0 σ
theorem zMod_holds_b151_r (N : Nat) (σ : z_S) (hσ : zR σ) : zrel (zMod_holds_b151 N σ) (Mod_holds_b151 N (zo σ)) := by
  unfold zMod_holds_b151 Mod_holds_b151
  exact zr_of (zMod_holds_b152_r N _ (by decide) _ hσ) (congr (congrArg (Mod_holds_b152 N) (zl_0)) rfl)
def zMod_holds_b147 (N : Nat) (σ : z_S) : Option (Int × z_S) := zMod_holds_b152 N 1 σ
theorem zMod_holds_b147_r (N : Nat) (σ : z_S) (hσ : zR σ) : zrel (zMod_holds_b147 N σ) (Mod_holds_b147 N (zo σ)) := by
  unfold zMod_holds_b147 Mod_holds_b147
  exact zr_of (zMod_holds_b152_r N _ (by decide) _ hσ) (congr (congrArg (Mod_holds_b152 N) (zl_1)) rfl)
def zMod_holds_b144 (N : Nat) (s0 : Int) (s1 : Int) (σ : z_S) : Option (Int × z_S) := if s0 = s1 then zMod_holds_b147 N σ else zMod_holds_b151 N σ
theorem zMod_holds_b144_r (N : Nat) (s0 : Int) (hs0 : zin s0) (s1 : Int) (hs1 : zin s1) (σ : z_S) (hσ : zR σ) : zrel (zMod_holds_b144 N s0 s1 σ) (Mod_holds_b144 N (zI s0) (zI s1) (zo σ)) := by
  unfold zMod_holds_b144 Mod_holds_b144
  refine zr_ite (zI_eq rfl rfl hs0 hs1) ?_ ?_
  · exact zr_of (zMod_holds_b147_r N  _ hσ) (congrArg (Mod_holds_b147 N) rfl)
  · exact zr_of (zMod_holds_b151_r N  _ hσ) (congrArg (Mod_holds_b151 N) rfl)
def zMod_holds_b143 (N : Nat) (s0 : Int) (σ : z_S) : Option (Int × z_S) := zMod_holds_b144 N s0 0 σ
theorem zMod_holds_b143_r (N : Nat) (s0 : Int) (hs0 : zin s0) (σ : z_S) (hσ : zR σ) : zrel (zMod_holds_b143 N s0 σ) (Mod_holds_b143 N (zI s0) (zo σ)) := by
  unfold zMod_holds_b143 Mod_holds_b143
  exact zr_of (zMod_holds_b144_r N _ hs0 _ (by decide) _ hσ) (congr (congr (congrArg (Mod_holds_b144 N) rfl) (zl_0)) rfl)
def zMod_holds_b139 (N : Nat) (s0 : Int) (σ : z_S) : Option (Int × z_S) := zMod_holds_b144 N s0 1 σ
theorem zMod_holds_b139_r (N : Nat) (s0 : Int) (hs0 : zin s0) (σ : z_S) (hσ : zR σ) : zrel (zMod_holds_b139 N s0 σ) (Mod_holds_b139 N (zI s0) (zo σ)) := by
  unfold zMod_holds_b139 Mod_holds_b139
  exact zr_of (zMod_holds_b144_r N _ hs0 _ (by decide) _ hσ) (congr (congr (congrArg (Mod_holds_b144 N) rfl) (zl_1)) rfl)
def zMod_holds_b133 (N : Nat) (x2 : Int) (s0 : Int) (σ : z_S) : Option (Int × z_S) := if x2 = 10 then zMod_holds_b139 N s0 σ else zMod_holds_b143 N s0 σ
theorem zMod_holds_b133_r (N : Nat) (x2 : Int) (hx2 : zin x2) (s0 : Int) (hs0 : zin s0) (σ : z_S) (hσ : zR σ) : zrel (zMod_holds_b133 N x2 s0 σ) (Mod_holds_b133 N (zI x2) (zI s0) (zo σ)) := by
  unfold zMod_holds_b133 Mod_holds_b133
  refine zr_ite (zI_eq rfl (zl_10) hx2 (by decide)) ?_ ?_
  · exact zr_of (zMod_holds_b139_r N _ hs0 _ hσ) (congr (congrArg (Mod_holds_b139 N) rfl) rfl)
  · exact zr_of (zMod_holds_b143_r N _ hs0 _ hσ) (congr (congrArg (Mod_holds_b143 N) rfl) rfl)
def zMod_holds_b132 (N : Nat) (x2 : Int) (σ : z_S) : Option (Int × z_S) := zMod_holds_b133 N x2 0 σ
theorem zMod_holds_b132_r (N : Nat) (x2 : Int) (hx2 : zin x2) (σ : z_S) (hσ : zR σ) : zrel (zMod_holds_b132 N x2 σ) (Mod_holds_b132 N (zI x2) (zo σ)) := by
  unfold zMod_holds_b132 Mod_holds_b132
  exact zr_of (zMod_holds_b133_r N _ hx2 _ (by decide) _ hσ) (congr (congr (congrArg (Mod_holds_b133 N) rfl) (zl_0)) rfl)
def zMod_holds_b128 (N : Nat) (x2 : Int) (σ : z_S) : Option (Int × z_S) := zMod_holds_b133 N x2 1 σ
theorem zMod_holds_b128_r (N : Nat) (x2 : Int) (hx2 : zin x2) (σ : z_S) (hσ : zR σ) : zrel (zMod_holds_b128 N x2 σ) (Mod_holds_b128 N (zI x2) (zo σ)) := by
  unfold zMod_holds_b128 Mod_holds_b128
  exact zr_of (zMod_holds_b133_r N _ hx2 _ (by decide) _ hσ) (congr (congr (congrArg (Mod_holds_b133 N) rfl) (zl_1)) rfl)
def zMod_holds_b107 (N : Nat) (x2 : Int) (σ : z_S) : Option (Int × z_S) := if zin ((σ.1 11) - 1) then (zMod_isWordAt N ((σ.1 11) - 1) σ).bind fun q114 => (zMod_isWordAt N (q114.2.1 11) q114.2).bind fun q122 => if q114.1 = q122.1 then zMod_holds_b132 N x2 q122.2 else zMod_holds_b128 N x2 q122.2 else none
theorem zMod_holds_b107_r (N : Nat) (x2 : Int) (hx2 : zin x2) (σ : z_S) (hσ : zR σ) : zrel (zMod_holds_b107 N x2 σ) (Mod_holds_b107 N (zI x2) (zo σ)) := by
  unfold zMod_holds_b107 Mod_holds_b107
  refine zr_g (fun g1 => ?_)
  refine zr_bind (zr_of (zMod_isWordAt_r N _ g1 _ hσ) (congr (congrArg (Mod_isWordAt N) (zI_sub (zo_fld rfl 11) (zl_1))) rfl)) (fun r114 s114σ hr114 hs114 => ?_)
  dsimp only
  refine zr_bind (zr_of (zMod_isWordAt_r N _ (hs114.1 11) _ hs114) (congr (congrArg (Mod_isWordAt N) (zo_fld rfl 11)) rfl)) (fun r122 s122σ hr122 hs122 => ?_)
  dsimp only
  refine zr_ite (zI_eq rfl rfl hr114 hr122) ?_ ?_
  · exact zr_of (zMod_holds_b132_r N _ hx2 _ hs122) (congr (congrArg (Mod_holds_b132 N) rfl) rfl)
  · exact zr_of (zMod_holds_b128_r N _ hx2 _ hs122) (congr (congrArg (Mod_holds_b128 N) rfl) rfl)
def zMod_holds_b282 (N : Nat) (s0 : Int) (σ : z_S) : Option (Int × z_S) := if zB s0 then some (s0, σ) else none
theorem zMod_holds_b282_r (N : Nat) (s0 : Int) (hs0 : zin s0) (σ : z_S) (hσ : zR σ) : zrel (zMod_holds_b282 N s0 σ) (Mod_holds_b282 N (zI s0) (zo σ)) := by
  unfold zMod_holds_b282 Mod_holds_b282
  refine zr_gg (zg_B rfl) (fun g1 => ?_)
  exact zr_some rfl hs0 rfl hσ
def zMod_holds_b281 (N : Nat) (σ : z_S) : Option (Int × z_S) := zMod_holds_b282 N 0 σ
theorem zMod_holds_b281_r (N : Nat) (σ : z_S) (hσ : zR σ) : zrel (zMod_holds_b281 N σ) (Mod_holds_b281 N (zo σ)) := by
  unfold zMod_holds_b281 Mod_holds_b281
  exact zr_of (zMod_holds_b282_r N _ (by decide) _ hσ) (congr (congrArg (Mod_holds_b282 N) (zl_0)) rfl)
def zMod_holds_b277 (N : Nat) (σ : z_S) : Option (Int × z_S) := zMod_holds_b282 N 1 σ
theorem zMod_holds_b277_r (N : Nat) (σ : z_S) (hσ : zR σ) : zrel (zMod_holds_b277 N σ) (Mod_holds_b277 N (zo σ)) := by
  unfold zMod_holds_b277 Mod_holds_b277
  exact zr_of (zMod_holds_b282_r N _ (by decide) _ hσ) (congr (congrArg (Mod_holds_b282 N) (zl_1)) rfl)
def zMod_holds_b274 (N : Nat) (s0 : Int) (s1 : Int) (σ : z_S) : Option (Int × z_S) := if s0 = s1 then zMod_holds_b277 N σ else zMod_holds_b281 N σ
theorem zMod_holds_b274_r (N : Nat) (s0 : Int) (hs0 : zin s0) (s1 : Int) (hs1 : zin s1) (σ : z_S) (hσ : zR σ) : zrel (zMod_holds_b274 N s0 s1 σ) (Mod_holds_b274 N (zI s0) (zI s1) (zo σ)) := by
  unfold zMod_holds_b274 Mod_holds_b274
  refine zr_ite (zI_eq rfl rfl hs0 hs1) ?_ ?_
  · exact zr_of (zMod_holds_b277_r N  _ hσ) (congrArg (Mod_holds_b277 N) rfl)
  · exact zr_of (zMod_holds_b281_r N  _ hσ) (congrArg (Mod_holds_b281 N) rfl)
def zMod_holds_b273 (N : Nat) (s0 : Int) (σ : z_S) : Option (Int × z_S) := zMod_holds_b274 N s0 0 σ
theorem zMod_holds_b273_r (N : Nat) (s0 : Int) (hs0 : zin s0) (σ : z_S) (hσ : zR σ) : zrel (zMod_holds_b273 N s0 σ) (Mod_holds_b273 N (zI s0) (zo σ)) := by
  unfold zMod_holds_b273 Mod_holds_b273
  exact zr_of (zMod_holds_b274_r N _ hs0 _ (by decide) _ hσ) (congr (congr (congrArg (Mod_holds_b274 N) rfl) (zl_0)) rfl)
def zMod_holds_b269 (N : Nat) (s0 : Int) (σ : z_S) : Option (Int × z_S) := zMod_holds_b274 N s0 1 σ
theorem zMod_holds_b269_r (N : Nat) (s0 : Int) (hs0 : zin s0) (σ : z_S) (hσ : zR σ) : zrel (zMod_holds_b269 N s0 σ) (Mod_holds_b269 N (zI s0) (zo σ)) := by
  unfold zMod_holds_b269 Mod_holds_b269
  exact zr_of (zMod_holds_b274_r N _ hs0 _ (by decide) _ hσ) (congr (congr (congrArg (Mod_holds_b274 N) rfl) (zl_1)) rfl)
def zMod_holds_b254 (N : Nat) (x1 : Int) (x3 : Int) (σ : z_S) : Option (Int × z_S) := (zMod_hasMember N x1 x3 σ).bind fun q257 => if zIn x1 1300 then if (q257.2.2 6 (x1).toNat) = 0 then zMod_holds_b269 N q257.1 q257.2 else zMod_holds_b273 N q257.1 q257.2 else none
theorem zMod_holds_b254_r (N : Nat) (x1 : Int) (hx1 : zin x1) (x3 : Int) (hx3 : zin x3) (σ : z_S) (hσ : zR σ) : zrel (zMod_holds_b254 N x1 x3 σ) (Mod_holds_b254 N (zI x1) (zI x3) (zo σ)) := by
  unfold zMod_holds_b254 Mod_holds_b254
  refine zr_bind (zr_of (zMod_hasMember_r N _ hx1 _ hx3 _ hσ) (congr (congr (congrArg (Mod_hasMember N) rfl) rfl) rfl)) (fun r257 s257σ hr257 hs257 => ?_)
  dsimp only
  refine zr_gg (zg_in rfl hx1) (fun g1 => ?_)
  refine zr_ite (zI_eq (zo_get (j := 6) rfl rfl hx1) (zl_0) (hs257.2 6 _) (by decide)) ?_ ?_
  · exact zr_of (zMod_holds_b269_r N _ hr257 _ hs257) (congr (congrArg (Mod_holds_b269 N) rfl) rfl)
  · exact zr_of (zMod_holds_b273_r N _ hr257 _ hs257) (congr (congrArg (Mod_holds_b273 N) rfl) rfl)
def zMod_holds_b243 (N : Nat) (x1 : Int) (x3 : Int) (σ : z_S) : Option (Int × z_S) := if zIn x1 1300 then (zMod_inSet N (σ.2 4 (x1).toNat) x3 σ).bind fun q250 => if zB q250.1 then some (q250.1, q250.2) else none else none
theorem zMod_holds_b243_r (N : Nat) (x1 : Int) (hx1 : zin x1) (x3 : Int) (hx3 : zin x3) (σ : z_S) (hσ : zR σ) : zrel (zMod_holds_b243 N x1 x3 σ) (Mod_holds_b243 N (zI x1) (zI x3) (zo σ)) := by
  unfold zMod_holds_b243 Mod_holds_b243
  refine zr_gg (zg_in rfl hx1) (fun g1 => ?_)
  refine zr_bind (zr_of (zMod_inSet_r N _ (hσ.2 4 _) _ hx3 _ hσ) (congr (congr (congrArg (Mod_inSet N) (zo_get (j := 4) rfl rfl hx1)) rfl) rfl)) (fun r250 s250σ hr250 hs250 => ?_)
  dsimp only
  refine zr_gg (zg_B rfl) (fun g2 => ?_)
  exact zr_some rfl hr250 rfl hs250
def zMod_holds_b238 (N : Nat) (x1 : Int) (x2 : Int) (x3 : Int) (σ : z_S) : Option (Int × z_S) := if x2 = 5 then zMod_holds_b243 N x1 x3 σ else zMod_holds_b254 N x1 x3 σ
theorem zMod_holds_b238_r (N : Nat) (x1 : Int) (hx1 : zin x1) (x2 : Int) (hx2 : zin x2) (x3 : Int) (hx3 : zin x3) (σ : z_S) (hσ : zR σ) : zrel (zMod_holds_b238 N x1 x2 x3 σ) (Mod_holds_b238 N (zI x1) (zI x2) (zI x3) (zo σ)) := by
  unfold zMod_holds_b238 Mod_holds_b238
  refine zr_ite (zI_eq rfl (zl_5) hx2 (by decide)) ?_ ?_
  · exact zr_of (zMod_holds_b243_r N _ hx1 _ hx3 _ hσ) (congr (congr (congrArg (Mod_holds_b243 N) rfl) rfl) rfl)
  · exact zr_of (zMod_holds_b254_r N _ hx1 _ hx3 _ hσ) (congr (congr (congrArg (Mod_holds_b254 N) rfl) rfl) rfl)
def zMod_holds_b237 (N : Nat) (s0 : Int) (σ : z_S) : Option (Int × z_S) := if zB s0 then some (s0, σ) else none
theorem zMod_holds_b237_r (N : Nat) (s0 : Int) (hs0 : zin s0) (σ : z_S) (hσ : zR σ) : zrel (zMod_holds_b237 N s0 σ) (Mod_holds_b237 N (zI s0) (zo σ)) := by
  unfold zMod_holds_b237 Mod_holds_b237
  refine zr_gg (zg_B rfl) (fun g1 => ?_)
  exact zr_some rfl hs0 rfl hσ
def zMod_holds_b236 (N : Nat) (σ : z_S) : Option (Int × z_S) := zMod_holds_b237 N 0 σ
theorem zMod_holds_b236_r (N : Nat) (σ : z_S) (hσ : zR σ) : zrel (zMod_holds_b236 N σ) (Mod_holds_b236 N (zo σ)) := by
  unfold zMod_holds_b236 Mod_holds_b236
  exact zr_of (zMod_holds_b237_r N _ (by decide) _ hσ) (congr (congrArg (Mod_holds_b237 N) (zl_0)) rfl)
def zMod_holds_b232 (N : Nat) (σ : z_S) : Option (Int × z_S) := zMod_holds_b237 N 1 σ
theorem zMod_holds_b232_r (N : Nat) (σ : z_S) (hσ : zR σ) : zrel (zMod_holds_b232 N σ) (Mod_holds_b232 N (zo σ)) := by
  unfold zMod_holds_b232 Mod_holds_b232
  exact zr_of (zMod_holds_b237_r N _ (by decide) _ hσ) (congr (congrArg (Mod_holds_b237 N) (zl_1)) rfl)
def zMod_holds_b225 (N : Nat) (x3 : Int) (σ : z_S) : Option (Int × z_S) := (zMod_isLineEnd N x3 σ).bind fun q226 => if q226.1 = 0 then zMod_holds_b232 N q226.2 else zMod_holds_b236 N q226.2
theorem zMod_holds_b225_r (N : Nat) (x3 : Int) (hx3 : zin x3) (σ : z_S) (hσ : zR σ) : zrel (zMod_holds_b225 N x3 σ) (Mod_holds_b225 N (zI x3) (zo σ)) := by
  unfold zMod_holds_b225 Mod_holds_b225
  refine zr_bind (zr_of (zMod_isLineEnd_r N _ hx3 _ hσ) (congr (congrArg (Mod_isLineEnd N) rfl) rfl)) (fun r226 s226σ hr226 hs226 => ?_)
  dsimp only
  refine zr_ite (zI_eq rfl (zl_0) hr226 (by decide)) ?_ ?_
  · exact zr_of (zMod_holds_b232_r N  _ hs226) (congrArg (Mod_holds_b232 N) rfl)
  · exact zr_of (zMod_holds_b236_r N  _ hs226) (congrArg (Mod_holds_b236 N) rfl)
def zMod_holds_b220 (N : Nat) (x1 : Int) (x2 : Int) (x3 : Int) (σ : z_S) : Option (Int × z_S) := if x2 = 4 then zMod_holds_b225 N x3 σ else zMod_holds_b238 N x1 x2 x3 σ
theorem zMod_holds_b220_r (N : Nat) (x1 : Int) (hx1 : zin x1) (x2 : Int) (hx2 : zin x2) (x3 : Int) (hx3 : zin x3) (σ : z_S) (hσ : zR σ) : zrel (zMod_holds_b220 N x1 x2 x3 σ) (Mod_holds_b220 N (zI x1) (zI x2) (zI x3) (zo σ)) := by
  unfold zMod_holds_b220 Mod_holds_b220
  refine zr_ite (zI_eq rfl (zl_4) hx2 (by decide)) ?_ ?_
  · exact zr_of (zMod_holds_b225_r N _ hx3 _ hσ) (congr (congrArg (Mod_holds_b225 N) rfl) rfl)
  · exact zr_of (zMod_holds_b238_r N _ hx1 _ hx2 _ hx3 _ hσ) (congr (congr (congr (congrArg (Mod_holds_b238 N) rfl) rfl) rfl) rfl)
def zMod_holds_b208 (N : Nat) (x1 : Int) (x3 : Int) (σ : z_S) : Option (Int × z_S) := if zIn x1 1300 then (zMod_isSame N x3 (σ.2 4 (x1).toNat) σ).bind fun q216 => if zB q216.1 then some (q216.1, q216.2) else none else none
theorem zMod_holds_b208_r (N : Nat) (x1 : Int) (hx1 : zin x1) (x3 : Int) (hx3 : zin x3) (σ : z_S) (hσ : zR σ) : zrel (zMod_holds_b208 N x1 x3 σ) (Mod_holds_b208 N (zI x1) (zI x3) (zo σ)) := by
  unfold zMod_holds_b208 Mod_holds_b208
  refine zr_gg (zg_in rfl hx1) (fun g1 => ?_)
  refine zr_bind (zr_of (zMod_isSame_r N _ hx3 _ (hσ.2 4 _) _ hσ) (congr (congr (congrArg (Mod_isSame N) rfl) (zo_get (j := 4) rfl rfl hx1)) rfl)) (fun r216 s216σ hr216 hs216 => ?_)
  dsimp only
  refine zr_gg (zg_B rfl) (fun g2 => ?_)
  exact zr_some rfl hr216 rfl hs216
def zMod_holds_b183 (N : Nat) (x1 : Int) (x2 : Int) (σ : z_S) : Option (Int × z_S) := if zIn (σ.1 11) 600 then if x2 = 3 then if zin ((σ.1 11) + 1) then zMod_holds_b208 N x1 (σ.2 2 ((σ.1 11)).toNat) (zF σ 11 ((σ.1 11) + 1)) else none else if zin ((σ.1 11) + 1) then zMod_holds_b220 N x1 x2 (σ.2 2 ((σ.1 11)).toNat) (zF σ 11 ((σ.1 11) + 1)) else none else none
theorem zMod_holds_b183_r (N : Nat) (x1 : Int) (hx1 : zin x1) (x2 : Int) (hx2 : zin x2) (σ : z_S) (hσ : zR σ) : zrel (zMod_holds_b183 N x1 x2 σ) (Mod_holds_b183 N (zI x1) (zI x2) (zo σ)) := by
  unfold zMod_holds_b183 Mod_holds_b183
  refine zr_gg (zg_in (zo_fld rfl 11) (hσ.1 11)) (fun g1 => ?_)
  refine zr_ite (zI_eq rfl (zl_3) hx2 (by decide)) ?_ ?_
  · refine zr_g (fun g2 => ?_)
    exact zr_of (zMod_holds_b208_r N _ hx1 _ (hσ.2 2 _) _ (zR_F (k := 11) hσ g2)) (congr (congr (congrArg (Mod_holds_b208 N) rfl) (zo_get (j := 2) rfl (zo_fld rfl 11) (hσ.1 11))) (zo_F (k := 11) rfl (zI_add (zo_fld rfl 11) (zl_1))))
  · refine zr_g (fun g3 => ?_)
    exact zr_of (zMod_holds_b220_r N _ hx1 _ hx2 _ (hσ.2 2 _) _ (zR_F (k := 11) hσ g3)) (congr (congr (congr (congrArg (Mod_holds_b220 N) rfl) rfl) (zo_get (j := 2) rfl (zo_fld rfl 11) (hσ.1 11))) (zo_F (k := 11) rfl (zI_add (zo_fld rfl 11) (zl_1))))
def zMod_holds_b181 (N : Nat) (σ : z_S) : Option (Int × z_S) := some (0, σ)
theorem zMod_holds_b181_r (N : Nat) (σ : z_S) (hσ : zR σ) : zrel (zMod_holds_b181 N σ) (Mod_holds_b181 N (zo σ)) := by
  unfold zMod_holds_b181 Mod_holds_b181
  exact zr_some (zl_0) (by decide) rfl hσ
def zMod_holds_b170 (N : Nat) (x1 : Int) (x2 : Int) (σ : z_S) : Option (Int × z_S) := if (σ.1 11) = (σ.1 7) then zMod_holds_b181 N σ else zMod_holds_b183 N x1 x2 σ
theorem zMod_holds_b170_r (N : Nat) (x1 : Int) (hx1 : zin x1) (x2 : Int) (hx2 : zin x2) (σ : z_S) (hσ : zR σ) : zrel (zMod_holds_b170 N x1 x2 σ) (Mod_holds_b170 N (zI x1) (zI x2) (zo σ)) := by
  unfold zMod_holds_b170 Mod_holds_b170
  refine zr_ite (zI_eq (zo_fld rfl 11) (zo_fld rfl 7) (hσ.1 11) (hσ.1 7)) ?_ ?_
  · exact zr_of (zMod_holds_b181_r N  _ hσ) (congrArg (Mod_holds_b181 N) rfl)
  · exact zr_of (zMod_holds_b183_r N _ hx1 _ hx2 _ hσ) (congr (congr (congrArg (Mod_holds_b183 N) rfl) rfl) rfl)
def zMod_holds_b159 (N : Nat) (x1 : Int) (σ : z_S) : Option (Int × z_S) := if zIn x1 1300 then (zMod_refers N (σ.2 4 (x1).toNat) σ).bind fun q166 => if zB q166.1 then some (q166.1, q166.2) else none else none
theorem zMod_holds_b159_r (N : Nat) (x1 : Int) (hx1 : zin x1) (σ : z_S) (hσ : zR σ) : zrel (zMod_holds_b159 N x1 σ) (Mod_holds_b159 N (zI x1) (zo σ)) := by
  unfold zMod_holds_b159 Mod_holds_b159
  refine zr_gg (zg_in rfl hx1) (fun g1 => ?_)
  refine zr_bind (zr_of (zMod_refers_r N _ (hσ.2 4 _) _ hσ) (congr (congrArg (Mod_refers N) (zo_get (j := 4) rfl rfl hx1)) rfl)) (fun r166 s166σ hr166 hs166 => ?_)
  dsimp only
  refine zr_gg (zg_B rfl) (fun g2 => ?_)
  exact zr_some rfl hr166 rfl hs166
def zMod_holds_b153 (N : Nat) (x1 : Int) (x2 : Int) (σ : z_S) : Option (Int × z_S) := if x2 = 7 then zMod_holds_b159 N x1 σ else zMod_holds_b170 N x1 x2 σ
theorem zMod_holds_b153_r (N : Nat) (x1 : Int) (hx1 : zin x1) (x2 : Int) (hx2 : zin x2) (σ : z_S) (hσ : zR σ) : zrel (zMod_holds_b153 N x1 x2 σ) (Mod_holds_b153 N (zI x1) (zI x2) (zo σ)) := by
  unfold zMod_holds_b153 Mod_holds_b153
  refine zr_ite (zI_eq rfl (zl_7) hx2 (by decide)) ?_ ?_
  · exact zr_of (zMod_holds_b159_r N _ hx1 _ hσ) (congr (congrArg (Mod_holds_b159 N) rfl) rfl)
  · exact zr_of (zMod_holds_b170_r N _ hx1 _ hx2 _ hσ) (congr (congr (congrArg (Mod_holds_b170 N) rfl) rfl) rfl)
def zMod_holds_b101 (N : Nat) (x1 : Int) (x2 : Int) (σ : z_S) : Option (Int × z_S) := if x2 = 11 then zMod_holds_b107 N x2 σ else zMod_holds_b153 N x1 x2 σ
theorem zMod_holds_b101_r (N : Nat) (x1 : Int) (hx1 : zin x1) (x2 : Int) (hx2 : zin x2) (σ : z_S) (hσ : zR σ) : zrel (zMod_holds_b101 N x1 x2 σ) (Mod_holds_b101 N (zI x1) (zI x2) (zo σ)) := by
  unfold zMod_holds_b101 Mod_holds_b101
  refine zr_ite (zI_eq rfl (zl_11) hx2 (by decide)) ?_ ?_
  · exact zr_of (zMod_holds_b107_r N _ hx2 _ hσ) (congr (congrArg (Mod_holds_b107 N) rfl) rfl)
  · exact zr_of (zMod_holds_b153_r N _ hx1 _ hx2 _ hσ) (congr (congr (congrArg (Mod_holds_b153 N) rfl) rfl) rfl)
def zMod_holds_b95 (N : Nat) (x1 : Int) (x2 : Int) (σ : z_S) : Option (Int × z_S) := if x2 = 10 then zMod_holds_b107 N x2 σ else zMod_holds_b101 N x1 x2 σ
theorem zMod_holds_b95_r (N : Nat) (x1 : Int) (hx1 : zin x1) (x2 : Int) (hx2 : zin x2) (σ : z_S) (hσ : zR σ) : zrel (zMod_holds_b95 N x1 x2 σ) (Mod_holds_b95 N (zI x1) (zI x2) (zo σ)) := by
  unfold zMod_holds_b95 Mod_holds_b95
  refine zr_ite (zI_eq rfl (zl_10) hx2 (by decide)) ?_ ?_
  · exact zr_of (zMod_holds_b107_r N _ hx2 _ hσ) (congr (congrArg (Mod_holds_b107 N) rfl) rfl)
  · exact zr_of (zMod_holds_b101_r N _ hx1 _ hx2 _ hσ) (congr (congr (congrArg (Mod_holds_b101 N) rfl) rfl) rfl)
def zMod_holds_b94 (N : Nat) (s0 : Int) (σ : z_S) : Option (Int × z_S) := if zB s0 then some (s0, σ) else none
theorem zMod_holds_b94_r (N : Nat) (s0 : Int) (hs0 : zin s0) (σ : z_S) (hσ : zR σ) : zrel (zMod_holds_b94 N s0 σ) (Mod_holds_b94 N (zI s0) (zo σ)) := by
  unfold zMod_holds_b94 Mod_holds_b94
  refine zr_gg (zg_B rfl) (fun g1 => ?_)
  exact zr_some rfl hs0 rfl hσ
def zMod_holds_b89 (N : Nat) (σ : z_S) : Option (Int × z_S) := zMod_holds_b94 N 1 σ
theorem zMod_holds_b89_r (N : Nat) (σ : z_S) (hσ : zR σ) : zrel (zMod_holds_b89 N σ) (Mod_holds_b89 N (zo σ)) := by
  unfold zMod_holds_b89 Mod_holds_b89
  exact zr_of (zMod_holds_b94_r N _ (by decide) _ hσ) (congr (congrArg (Mod_holds_b94 N) (zl_1)) rfl)
def zMod_holds_b93 (N : Nat) (σ : z_S) : Option (Int × z_S) := zMod_holds_b94 N 0 σ
theorem zMod_holds_b93_r (N : Nat) (σ : z_S) (hσ : zR σ) : zrel (zMod_holds_b93 N σ) (Mod_holds_b93 N (zo σ)) := by
  unfold zMod_holds_b93 Mod_holds_b93
  exact zr_of (zMod_holds_b94_r N _ (by decide) _ hσ) (congr (congrArg (Mod_holds_b94 N) (zl_0)) rfl)
def zMod_holds_b74 (N : Nat) (σ : z_S) : Option (Int × z_S) := if zIn (σ.1 11) 600 then (zMod_isLineEnd N (σ.2 2 ((σ.1 11)).toNat) σ).bind fun q83 => if q83.1 = 0 then zMod_holds_b93 N q83.2 else zMod_holds_b89 N q83.2 else none
theorem zMod_holds_b74_r (N : Nat) (σ : z_S) (hσ : zR σ) : zrel (zMod_holds_b74 N σ) (Mod_holds_b74 N (zo σ)) := by
  unfold zMod_holds_b74 Mod_holds_b74
  refine zr_gg (zg_in (zo_fld rfl 11) (hσ.1 11)) (fun g1 => ?_)
  refine zr_bind (zr_of (zMod_isLineEnd_r N _ (hσ.2 2 _) _ hσ) (congr (congrArg (Mod_isLineEnd N) (zo_get (j := 2) rfl (zo_fld rfl 11) (hσ.1 11))) rfl)) (fun r83 s83σ hr83 hs83 => ?_)
  dsimp only
  refine zr_ite (zI_eq rfl (zl_0) hr83 (by decide)) ?_ ?_
  · exact zr_of (zMod_holds_b93_r N  _ hs83) (congrArg (Mod_holds_b93 N) rfl)
  · exact zr_of (zMod_holds_b89_r N  _ hs83) (congrArg (Mod_holds_b89 N) rfl)
def zMod_holds_b67 (N : Nat) (σ : z_S) : Option (Int × z_S) := if (σ.1 4) = 0 then zMod_holds_b93 N σ else zMod_holds_b74 N σ
theorem zMod_holds_b67_r (N : Nat) (σ : z_S) (hσ : zR σ) : zrel (zMod_holds_b67 N σ) (Mod_holds_b67 N (zo σ)) := by
  unfold zMod_holds_b67 Mod_holds_b67
  refine zr_ite (zI_eq (zo_fld rfl 4) (zl_0) (hσ.1 4) (by decide)) ?_ ?_
  · exact zr_of (zMod_holds_b93_r N  _ hσ) (congrArg (Mod_holds_b93 N) rfl)
  · exact zr_of (zMod_holds_b74_r N  _ hσ) (congrArg (Mod_holds_b74 N) rfl)
def zMod_holds_b56 (N : Nat) (σ : z_S) : Option (Int × z_S) := if (σ.1 11) = (σ.1 7) then zMod_holds_b89 N σ else zMod_holds_b67 N σ
theorem zMod_holds_b56_r (N : Nat) (σ : z_S) (hσ : zR σ) : zrel (zMod_holds_b56 N σ) (Mod_holds_b56 N (zo σ)) := by
  unfold zMod_holds_b56 Mod_holds_b56
  refine zr_ite (zI_eq (zo_fld rfl 11) (zo_fld rfl 7) (hσ.1 11) (hσ.1 7)) ?_ ?_
  · exact zr_of (zMod_holds_b89_r N  _ hσ) (congrArg (Mod_holds_b89 N) rfl)
  · exact zr_of (zMod_holds_b67_r N  _ hσ) (congrArg (Mod_holds_b67 N) rfl)
def zMod_holds_b50 (N : Nat) (x1 : Int) (x2 : Int) (σ : z_S) : Option (Int × z_S) := if x2 = 9 then zMod_holds_b56 N σ else zMod_holds_b95 N x1 x2 σ
theorem zMod_holds_b50_r (N : Nat) (x1 : Int) (hx1 : zin x1) (x2 : Int) (hx2 : zin x2) (σ : z_S) (hσ : zR σ) : zrel (zMod_holds_b50 N x1 x2 σ) (Mod_holds_b50 N (zI x1) (zI x2) (zo σ)) := by
  unfold zMod_holds_b50 Mod_holds_b50
  refine zr_ite (zI_eq rfl (zl_9) hx2 (by decide)) ?_ ?_
  · exact zr_of (zMod_holds_b56_r N  _ hσ) (congrArg (Mod_holds_b56 N) rfl)
  · exact zr_of (zMod_holds_b95_r N _ hx1 _ hx2 _ hσ) (congr (congr (congrArg (Mod_holds_b95 N) rfl) rfl) rfl)
def zMod_holds_b49 (N : Nat) (s0 : Int) (σ : z_S) : Option (Int × z_S) := if zB s0 then some (s0, σ) else none
theorem zMod_holds_b49_r (N : Nat) (s0 : Int) (hs0 : zin s0) (σ : z_S) (hσ : zR σ) : zrel (zMod_holds_b49 N s0 σ) (Mod_holds_b49 N (zI s0) (zo σ)) := by
  unfold zMod_holds_b49 Mod_holds_b49
  refine zr_gg (zg_B rfl) (fun g1 => ?_)
  exact zr_some rfl hs0 rfl hσ
def zMod_holds_b44 (N : Nat) (σ : z_S) : Option (Int × z_S) := zMod_holds_b49 N 1 σ
theorem zMod_holds_b44_r (N : Nat) (σ : z_S) (hσ : zR σ) : zrel (zMod_holds_b44 N σ) (Mod_holds_b44 N (zo σ)) := by
  unfold zMod_holds_b44 Mod_holds_b44
  exact zr_of (zMod_holds_b49_r N _ (by decide) _ hσ) (congr (congrArg (Mod_holds_b49 N) (zl_1)) rfl)
def zMod_holds_b48 (N : Nat) (σ : z_S) : Option (Int × z_S) := zMod_holds_b49 N 0 σ
theorem zMod_holds_b48_r (N : Nat) (σ : z_S) (hσ : zR σ) : zrel (zMod_holds_b48 N σ) (Mod_holds_b48 N (zo σ)) := by
  unfold zMod_holds_b48 Mod_holds_b48
  exact zr_of (zMod_holds_b49_r N _ (by decide) _ hσ) (congr (congrArg (Mod_holds_b49 N) (zl_0)) rfl)
def zMod_holds_b27 (N : Nat) (σ : z_S) : Option (Int × z_S) := if zin ((σ.1 11) - 1) then if zIn ((σ.1 11) - 1) 600 then (zMod_isLineEnd N (σ.2 2 (((σ.1 11) - 1)).toNat) σ).bind fun q38 => if q38.1 = 0 then zMod_holds_b48 N q38.2 else zMod_holds_b44 N q38.2 else none else none
theorem zMod_holds_b27_r (N : Nat) (σ : z_S) (hσ : zR σ) : zrel (zMod_holds_b27 N σ) (Mod_holds_b27 N (zo σ)) := by
  unfold zMod_holds_b27 Mod_holds_b27
  refine zr_g (fun g1 => ?_)
  refine zr_gg (zg_in (zI_sub (zo_fld rfl 11) (zl_1)) g1) (fun g2 => ?_)
  refine zr_bind (zr_of (zMod_isLineEnd_r N _ (hσ.2 2 _) _ hσ) (congr (congrArg (Mod_isLineEnd N) (zo_get (j := 2) rfl (zI_sub (zo_fld rfl 11) (zl_1)) g1)) rfl)) (fun r38 s38σ hr38 hs38 => ?_)
  dsimp only
  refine zr_ite (zI_eq rfl (zl_0) hr38 (by decide)) ?_ ?_
  · exact zr_of (zMod_holds_b48_r N  _ hs38) (congrArg (Mod_holds_b48 N) rfl)
  · exact zr_of (zMod_holds_b44_r N  _ hs38) (congrArg (Mod_holds_b44 N) rfl)
def zMod_holds_b20 (N : Nat) (σ : z_S) : Option (Int × z_S) := if (σ.1 4) = 0 then zMod_holds_b48 N σ else zMod_holds_b27 N σ
theorem zMod_holds_b20_r (N : Nat) (σ : z_S) (hσ : zR σ) : zrel (zMod_holds_b20 N σ) (Mod_holds_b20 N (zo σ)) := by
  unfold zMod_holds_b20 Mod_holds_b20
  refine zr_ite (zI_eq (zo_fld rfl 4) (zl_0) (hσ.1 4) (by decide)) ?_ ?_
  · exact zr_of (zMod_holds_b48_r N  _ hσ) (congrArg (Mod_holds_b48 N) rfl)
  · exact zr_of (zMod_holds_b27_r N  _ hσ) (congrArg (Mod_holds_b27 N) rfl)
def zMod_holds_b13 (N : Nat) (σ : z_S) : Option (Int × z_S) := if (σ.1 11) = 0 then zMod_holds_b44 N σ else zMod_holds_b20 N σ
theorem zMod_holds_b13_r (N : Nat) (σ : z_S) (hσ : zR σ) : zrel (zMod_holds_b13 N σ) (Mod_holds_b13 N (zo σ)) := by
  unfold zMod_holds_b13 Mod_holds_b13
  refine zr_ite (zI_eq (zo_fld rfl 11) (zl_0) (hσ.1 11) (by decide)) ?_ ?_
  · exact zr_of (zMod_holds_b44_r N  _ hσ) (congrArg (Mod_holds_b44 N) rfl)
  · exact zr_of (zMod_holds_b20_r N  _ hσ) (congrArg (Mod_holds_b20 N) rfl)
def zMod_holds_b0 (N : Nat) (x1 : Int) (σ : z_S) : Option (Int × z_S) := if zIn x1 1300 then if (σ.2 3 (x1).toNat) = 8 then zMod_holds_b13 N σ else zMod_holds_b50 N x1 (σ.2 3 (x1).toNat) σ else none
theorem zMod_holds_b0_r (N : Nat) (x1 : Int) (hx1 : zin x1) (σ : z_S) (hσ : zR σ) : zrel (zMod_holds_b0 N x1 σ) (Mod_holds_b0 N (zI x1) (zo σ)) := by
  unfold zMod_holds_b0 Mod_holds_b0
  refine zr_gg (zg_in rfl hx1) (fun g1 => ?_)
  refine zr_ite (zI_eq (zo_get (j := 3) rfl rfl hx1) (zl_8) (hσ.2 3 _) (by decide)) ?_ ?_
  · exact zr_of (zMod_holds_b13_r N  _ hσ) (congrArg (Mod_holds_b13 N) rfl)
  · exact zr_of (zMod_holds_b50_r N _ hx1 _ (hσ.2 3 _) _ hσ) (congr (congr (congrArg (Mod_holds_b50 N) rfl) (zo_get (j := 3) rfl rfl hx1)) rfl)
def zMod_holds (N : Nat) (x1 : Int) (σ : z_S) : Option (Int × z_S) := zMod_holds_b0 N x1 σ
theorem zMod_holds_r (N : Nat) (x1 : Int) (hx1 : zin x1) (σ : z_S) (hσ : zR σ) : zrel (zMod_holds N x1 σ) (Mod_holds N (zI x1) (zo σ)) := by
  unfold zMod_holds Mod_holds
  exact zr_of (zMod_holds_b0_r N _ hx1 _ hσ) (congr (congrArg (Mod_holds_b0 N) rfl) rfl)
def zMod_doNode_b113 (N : Nat) (x1 : Int) (x2 : Int) (s1 : Int) (s2 : Int) (s3 : Int) (σ : z_S) : Option (Int × z_S) := (zMod_push N s1 s2 s3 σ).bind fun q113 => if zIn x1 1300 then (zMod_row N 7 x1 x2 (q113.2.1 11) (q113.2.1 19) 0 q113.2).bind fun q138 => (zMod_row N 0 (q113.2.2 7 (x1).toNat) q138.1 0 0 0 q138.2).bind fun q144 => some (q144.1, q144.2) else none
theorem zMod_doNode_b113_r (N : Nat) (x1 : Int) (hx1 : zin x1) (x2 : Int) (hx2 : zin x2) (s1 : Int) (hs1 : zin s1) (s2 : Int) (hs2 : zin s2) (s3 : Int) (hs3 : zin s3) (σ : z_S) (hσ : zR σ) : zrel (zMod_doNode_b113 N x1 x2 s1 s2 s3 σ) (Mod_doNode_b113 N (zI x1) (zI x2) (zI s1) (zI s2) (zI s3) (zo σ)) := by
  unfold zMod_doNode_b113 Mod_doNode_b113
  refine zr_bind (zr_of (zMod_push_r N _ hs1 _ hs2 _ hs3 _ hσ) (congr (congr (congr (congrArg (Mod_push N) rfl) rfl) rfl) rfl)) (fun r113 s113σ hr113 hs113 => ?_)
  dsimp only
  refine zr_gg (zg_in rfl hx1) (fun g1 => ?_)
  refine zr_bind (zr_of (zMod_row_r N _ (by decide) _ hx1 _ hx2 _ (hs113.1 11) _ (hs113.1 19) _ (by decide) _ hs113) (congr (congr (congr (congr (congr (congr (congrArg (Mod_row N) (zl_7)) rfl) rfl) (zo_fld rfl 11)) (zo_fld rfl 19)) (zl_0)) rfl)) (fun r138 s138σ hr138 hs138 => ?_)
  dsimp only
  refine zr_bind (zr_of (zMod_row_r N _ (by decide) _ (hs113.2 7 _) _ hr138 _ (by decide) _ (by decide) _ (by decide) _ hs138) (congr (congr (congr (congr (congr (congr (congrArg (Mod_row N) (zl_0)) (zo_get (j := 7) rfl rfl hx1)) rfl) (zl_0)) (zl_0)) (zl_0)) rfl)) (fun r144 s144σ hr144 hs144 => ?_)
  dsimp only
  exact zr_some rfl hr144 rfl hs144
def zMod_doNode_b112 (N : Nat) (x1 : Int) (x2 : Int) (s1 : Int) (s2 : Int) (σ : z_S) : Option (Int × z_S) := zMod_doNode_b113 N x1 x2 s1 s2 2 σ
theorem zMod_doNode_b112_r (N : Nat) (x1 : Int) (hx1 : zin x1) (x2 : Int) (hx2 : zin x2) (s1 : Int) (hs1 : zin s1) (s2 : Int) (hs2 : zin s2) (σ : z_S) (hσ : zR σ) : zrel (zMod_doNode_b112 N x1 x2 s1 s2 σ) (Mod_doNode_b112 N (zI x1) (zI x2) (zI s1) (zI s2) (zo σ)) := by
  unfold zMod_doNode_b112 Mod_doNode_b112
  exact zr_of (zMod_doNode_b113_r N _ hx1 _ hx2 _ hs1 _ hs2 _ (by decide) _ hσ) (congr (congr (congr (congr (congr (congrArg (Mod_doNode_b113 N) rfl) rfl) rfl) rfl) (zl_2)) rfl)
def zMod_doNode_b108 (N : Nat) (x1 : Int) (x2 : Int) (s1 : Int) (s2 : Int) (σ : z_S) : Option (Int × z_S) := zMod_doNode_b113 N x1 x2 s1 s2 1 σ
theorem zMod_doNode_b108_r (N : Nat) (x1 : Int) (hx1 : zin x1) (x2 : Int) (hx2 : zin x2) (s1 : Int) (hs1 : zin s1) (s2 : Int) (hs2 : zin s2) (σ : z_S) (hσ : zR σ) : zrel (zMod_doNode_b108 N x1 x2 s1 s2 σ) (Mod_doNode_b108 N (zI x1) (zI x2) (zI s1) (zI s2) (zo σ)) := by
  unfold zMod_doNode_b108 Mod_doNode_b108
  exact zr_of (zMod_doNode_b113_r N _ hx1 _ hx2 _ hs1 _ hs2 _ (by decide) _ hσ) (congr (congr (congr (congr (congr (congrArg (Mod_doNode_b113 N) rfl) rfl) rfl) rfl) (zl_1)) rfl)
def zMod_doNode_b96 (N : Nat) (x1 : Int) (x2 : Int) (x3 : Int) (σ : z_S) : Option (Int × z_S) := if x3 = 14 then zMod_doNode_b108 N x1 x2 x2 (σ.1 11) σ else zMod_doNode_b112 N x1 x2 x2 (σ.1 11) σ
theorem zMod_doNode_b96_r (N : Nat) (x1 : Int) (hx1 : zin x1) (x2 : Int) (hx2 : zin x2) (x3 : Int) (hx3 : zin x3) (σ : z_S) (hσ : zR σ) : zrel (zMod_doNode_b96 N x1 x2 x3 σ) (Mod_doNode_b96 N (zI x1) (zI x2) (zI x3) (zo σ)) := by
  unfold zMod_doNode_b96 Mod_doNode_b96
  refine zr_ite (zI_eq rfl (zl_14) hx3 (by decide)) ?_ ?_
  · exact zr_of (zMod_doNode_b108_r N _ hx1 _ hx2 _ hx2 _ (hσ.1 11) _ hσ) (congr (congr (congr (congr (congrArg (Mod_doNode_b108 N) rfl) rfl) rfl) (zo_fld rfl 11)) rfl)
  · exact zr_of (zMod_doNode_b112_r N _ hx1 _ hx2 _ hx2 _ (hσ.1 11) _ hσ) (congr (congr (congr (congr (congrArg (Mod_doNode_b112 N) rfl) rfl) rfl) (zo_fld rfl 11)) rfl)
def zMod_doNode_b198 (N : Nat) (s0 : Int) (σ : z_S) : Option (Int × z_S) := some (s0, σ)
theorem zMod_doNode_b198_r (N : Nat) (s0 : Int) (hs0 : zin s0) (σ : z_S) (hσ : zR σ) : zrel (zMod_doNode_b198 N s0 σ) (Mod_doNode_b198 N (zI s0) (zo σ)) := by
  unfold zMod_doNode_b198 Mod_doNode_b198
  exact zr_some rfl hs0 rfl hσ
def zMod_doNode_b197 (N : Nat) (σ : z_S) : Option (Int × z_S) := zMod_doNode_b198 N (-1) σ
theorem zMod_doNode_b197_r (N : Nat) (σ : z_S) (hσ : zR σ) : zrel (zMod_doNode_b197 N σ) (Mod_doNode_b197 N (zo σ)) := by
  unfold zMod_doNode_b197 Mod_doNode_b197
  exact zr_of (zMod_doNode_b198_r N _ (by decide) _ hσ) (congr (congrArg (Mod_doNode_b198 N) (zl_m1)) rfl)
def zMod_doNode_b193 (N : Nat) (x2 : Int) (σ : z_S) : Option (Int × z_S) := zMod_doNode_b198 N x2 σ
theorem zMod_doNode_b193_r (N : Nat) (x2 : Int) (hx2 : zin x2) (σ : z_S) (hσ : zR σ) : zrel (zMod_doNode_b193 N x2 σ) (Mod_doNode_b193 N (zI x2) (zo σ)) := by
  unfold zMod_doNode_b193 Mod_doNode_b193
  exact zr_of (zMod_doNode_b198_r N _ hx2 _ hσ) (congr (congrArg (Mod_doNode_b198 N) rfl) rfl)
def zMod_doNode_b185 (N : Nat) (x1 : Int) (x2 : Int) (σ : z_S) : Option (Int × z_S) := (zMod_holds N x1 σ).bind fun q187 => if q187.1 = 0 then zMod_doNode_b197 N q187.2 else zMod_doNode_b193 N x2 q187.2
theorem zMod_doNode_b185_r (N : Nat) (x1 : Int) (hx1 : zin x1) (x2 : Int) (hx2 : zin x2) (σ : z_S) (hσ : zR σ) : zrel (zMod_doNode_b185 N x1 x2 σ) (Mod_doNode_b185 N (zI x1) (zI x2) (zo σ)) := by
  unfold zMod_doNode_b185 Mod_doNode_b185
  refine zr_bind (zr_of (zMod_holds_r N _ hx1 _ hσ) (congr (congrArg (Mod_holds N) rfl) rfl)) (fun r187 s187σ hr187 hs187 => ?_)
  dsimp only
  refine zr_ite (zI_eq rfl (zl_0) hr187 (by decide)) ?_ ?_
  · exact zr_of (zMod_doNode_b197_r N  _ hs187) (congrArg (Mod_doNode_b197 N) rfl)
  · exact zr_of (zMod_doNode_b193_r N _ hx2 _ hs187) (congr (congrArg (Mod_doNode_b193 N) rfl) rfl)
def zMod_doNode_b182 (N : Nat) (σ : z_S) : Option (Int × z_S) := some ((-2), σ)
theorem zMod_doNode_b182_r (N : Nat) (σ : z_S) (hσ : zR σ) : zrel (zMod_doNode_b182 N σ) (Mod_doNode_b182 N (zo σ)) := by
  unfold zMod_doNode_b182 Mod_doNode_b182
  exact zr_some (zl_m2) (by decide) rfl hσ
def zMod_doNode_b175 (N : Nat) (x1 : Int) (x2 : Int) (σ : z_S) : Option (Int × z_S) := (zMod_spends N σ).bind fun q176 => if q176.1 = 0 then zMod_doNode_b182 N q176.2 else zMod_doNode_b185 N x1 x2 q176.2
theorem zMod_doNode_b175_r (N : Nat) (x1 : Int) (hx1 : zin x1) (x2 : Int) (hx2 : zin x2) (σ : z_S) (hσ : zR σ) : zrel (zMod_doNode_b175 N x1 x2 σ) (Mod_doNode_b175 N (zI x1) (zI x2) (zo σ)) := by
  unfold zMod_doNode_b175 Mod_doNode_b175
  refine zr_bind (zr_of (zMod_spends_r N  _ hσ) (congrArg (Mod_spends N) rfl)) (fun r176 s176σ hr176 hs176 => ?_)
  dsimp only
  refine zr_ite (zI_eq rfl (zl_0) hr176 (by decide)) ?_ ?_
  · exact zr_of (zMod_doNode_b182_r N  _ hs176) (congrArg (Mod_doNode_b182 N) rfl)
  · exact zr_of (zMod_doNode_b185_r N _ hx1 _ hx2 _ hs176) (congr (congr (congrArg (Mod_doNode_b185 N) rfl) rfl) rfl)
def zMod_doNode_b154 (N : Nat) (x1 : Int) (x2 : Int) (σ : z_S) : Option (Int × z_S) := if zIn x1 1300 then (zMod_row N 4 x1 x2 (σ.2 4 (x1).toNat) (σ.2 5 (x1).toNat) 0 σ).bind fun q171 => some (q171.1, q171.2) else none
theorem zMod_doNode_b154_r (N : Nat) (x1 : Int) (hx1 : zin x1) (x2 : Int) (hx2 : zin x2) (σ : z_S) (hσ : zR σ) : zrel (zMod_doNode_b154 N x1 x2 σ) (Mod_doNode_b154 N (zI x1) (zI x2) (zo σ)) := by
  unfold zMod_doNode_b154 Mod_doNode_b154
  refine zr_gg (zg_in rfl hx1) (fun g1 => ?_)
  refine zr_bind (zr_of (zMod_row_r N _ (by decide) _ hx1 _ hx2 _ (hσ.2 4 _) _ (hσ.2 5 _) _ (by decide) _ hσ) (congr (congr (congr (congr (congr (congr (congrArg (Mod_row N) (zl_4)) rfl) rfl) (zo_get (j := 4) rfl rfl hx1)) (zo_get (j := 5) rfl rfl hx1)) (zl_0)) rfl)) (fun r171 s171σ hr171 hs171 => ?_)
  dsimp only
  exact zr_some rfl hr171 rfl hs171
def zMod_doNode_b148 (N : Nat) (x1 : Int) (x2 : Int) (x3 : Int) (σ : z_S) : Option (Int × z_S) := if x3 = 16 then zMod_doNode_b154 N x1 x2 σ else zMod_doNode_b175 N x1 x2 σ
theorem zMod_doNode_b148_r (N : Nat) (x1 : Int) (hx1 : zin x1) (x2 : Int) (hx2 : zin x2) (x3 : Int) (hx3 : zin x3) (σ : z_S) (hσ : zR σ) : zrel (zMod_doNode_b148 N x1 x2 x3 σ) (Mod_doNode_b148 N (zI x1) (zI x2) (zI x3) (zo σ)) := by
  unfold zMod_doNode_b148 Mod_doNode_b148
  refine zr_ite (zI_eq rfl (zl_16) hx3 (by decide)) ?_ ?_
  · exact zr_of (zMod_doNode_b154_r N _ hx1 _ hx2 _ hσ) (congr (congr (congrArg (Mod_doNode_b154 N) rfl) rfl) rfl)
  · exact zr_of (zMod_doNode_b175_r N _ hx1 _ hx2 _ hσ) (congr (congr (congrArg (Mod_doNode_b175 N) rfl) rfl) rfl)
def zMod_doNode_b90 (N : Nat) (x1 : Int) (x2 : Int) (x3 : Int) (σ : z_S) : Option (Int × z_S) := if x3 = 15 then zMod_doNode_b96 N x1 x2 x3 σ else zMod_doNode_b148 N x1 x2 x3 σ
theorem zMod_doNode_b90_r (N : Nat) (x1 : Int) (hx1 : zin x1) (x2 : Int) (hx2 : zin x2) (x3 : Int) (hx3 : zin x3) (σ : z_S) (hσ : zR σ) : zrel (zMod_doNode_b90 N x1 x2 x3 σ) (Mod_doNode_b90 N (zI x1) (zI x2) (zI x3) (zo σ)) := by
  unfold zMod_doNode_b90 Mod_doNode_b90
  refine zr_ite (zI_eq rfl (zl_15) hx3 (by decide)) ?_ ?_
  · exact zr_of (zMod_doNode_b96_r N _ hx1 _ hx2 _ hx3 _ hσ) (congr (congr (congr (congrArg (Mod_doNode_b96 N) rfl) rfl) rfl) rfl)
  · exact zr_of (zMod_doNode_b148_r N _ hx1 _ hx2 _ hx3 _ hσ) (congr (congr (congr (congrArg (Mod_doNode_b148 N) rfl) rfl) rfl) rfl)
def zMod_doNode_b84 (N : Nat) (x1 : Int) (x2 : Int) (x3 : Int) (σ : z_S) : Option (Int × z_S) := if x3 = 14 then zMod_doNode_b96 N x1 x2 x3 σ else zMod_doNode_b90 N x1 x2 x3 σ
theorem zMod_doNode_b84_r (N : Nat) (x1 : Int) (hx1 : zin x1) (x2 : Int) (hx2 : zin x2) (x3 : Int) (hx3 : zin x3) (σ : z_S) (hσ : zR σ) : zrel (zMod_doNode_b84 N x1 x2 x3 σ) (Mod_doNode_b84 N (zI x1) (zI x2) (zI x3) (zo σ)) := by
  unfold zMod_doNode_b84 Mod_doNode_b84
  refine zr_ite (zI_eq rfl (zl_14) hx3 (by decide)) ?_ ?_
  · exact zr_of (zMod_doNode_b96_r N _ hx1 _ hx2 _ hx3 _ hσ) (congr (congr (congr (congrArg (Mod_doNode_b96 N) rfl) rfl) rfl) rfl)
  · exact zr_of (zMod_doNode_b90_r N _ hx1 _ hx2 _ hx3 _ hσ) (congr (congr (congr (congrArg (Mod_doNode_b90 N) rfl) rfl) rfl) rfl)
def zMod_doNode_b68 (N : Nat) (x1 : Int) (x2 : Int) (σ : z_S) : Option (Int × z_S) := if zIn x1 1300 then (zMod_row N 0 (σ.2 7 (x1).toNat) x2 0 0 0 σ).bind fun q80 => some (q80.1, q80.2) else none
theorem zMod_doNode_b68_r (N : Nat) (x1 : Int) (hx1 : zin x1) (x2 : Int) (hx2 : zin x2) (σ : z_S) (hσ : zR σ) : zrel (zMod_doNode_b68 N x1 x2 σ) (Mod_doNode_b68 N (zI x1) (zI x2) (zo σ)) := by
  unfold zMod_doNode_b68 Mod_doNode_b68
  refine zr_gg (zg_in rfl hx1) (fun g1 => ?_)
  refine zr_bind (zr_of (zMod_row_r N _ (by decide) _ (hσ.2 7 _) _ hx2 _ (by decide) _ (by decide) _ (by decide) _ hσ) (congr (congr (congr (congr (congr (congr (congrArg (Mod_row N) (zl_0)) (zo_get (j := 7) rfl rfl hx1)) rfl) (zl_0)) (zl_0)) (zl_0)) rfl)) (fun r80 s80σ hr80 hs80 => ?_)
  dsimp only
  exact zr_some rfl hr80 rfl hs80
def zMod_doNode_b62 (N : Nat) (x1 : Int) (x2 : Int) (x3 : Int) (σ : z_S) : Option (Int × z_S) := if x3 = 13 then zMod_doNode_b68 N x1 x2 σ else zMod_doNode_b84 N x1 x2 x3 σ
theorem zMod_doNode_b62_r (N : Nat) (x1 : Int) (hx1 : zin x1) (x2 : Int) (hx2 : zin x2) (x3 : Int) (hx3 : zin x3) (σ : z_S) (hσ : zR σ) : zrel (zMod_doNode_b62 N x1 x2 x3 σ) (Mod_doNode_b62 N (zI x1) (zI x2) (zI x3) (zo σ)) := by
  unfold zMod_doNode_b62 Mod_doNode_b62
  refine zr_ite (zI_eq rfl (zl_13) hx3 (by decide)) ?_ ?_
  · exact zr_of (zMod_doNode_b68_r N _ hx1 _ hx2 _ hσ) (congr (congr (congrArg (Mod_doNode_b68 N) rfl) rfl) rfl)
  · exact zr_of (zMod_doNode_b84_r N _ hx1 _ hx2 _ hx3 _ hσ) (congr (congr (congr (congrArg (Mod_doNode_b84 N) rfl) rfl) rfl) rfl)
def zMod_doNode_b34 (N : Nat) (x1 : Int) (x2 : Int) (σ : z_S) : Option (Int × z_S) := if zIn x1 1300 then (zMod_row N 3 x1 x2 (σ.1 11) 0 0 σ).bind fun q52 => (zMod_row N 0 (σ.2 7 (x1).toNat) q52.1 0 0 0 q52.2).bind fun q58 => some (q58.1, q58.2) else none
theorem zMod_doNode_b34_r (N : Nat) (x1 : Int) (hx1 : zin x1) (x2 : Int) (hx2 : zin x2) (σ : z_S) (hσ : zR σ) : zrel (zMod_doNode_b34 N x1 x2 σ) (Mod_doNode_b34 N (zI x1) (zI x2) (zo σ)) := by
  unfold zMod_doNode_b34 Mod_doNode_b34
  refine zr_gg (zg_in rfl hx1) (fun g1 => ?_)
  refine zr_bind (zr_of (zMod_row_r N _ (by decide) _ hx1 _ hx2 _ (hσ.1 11) _ (by decide) _ (by decide) _ hσ) (congr (congr (congr (congr (congr (congr (congrArg (Mod_row N) (zl_3)) rfl) rfl) (zo_fld rfl 11)) (zl_0)) (zl_0)) rfl)) (fun r52 s52σ hr52 hs52 => ?_)
  dsimp only
  refine zr_bind (zr_of (zMod_row_r N _ (by decide) _ (hσ.2 7 _) _ hr52 _ (by decide) _ (by decide) _ (by decide) _ hs52) (congr (congr (congr (congr (congr (congr (congrArg (Mod_row N) (zl_0)) (zo_get (j := 7) rfl rfl hx1)) rfl) (zl_0)) (zl_0)) (zl_0)) rfl)) (fun r58 s58σ hr58 hs58 => ?_)
  dsimp only
  exact zr_some rfl hr58 rfl hs58
def zMod_doNode_b28 (N : Nat) (x1 : Int) (x2 : Int) (x3 : Int) (σ : z_S) : Option (Int × z_S) := if x3 = 12 then zMod_doNode_b34 N x1 x2 σ else zMod_doNode_b62 N x1 x2 x3 σ
theorem zMod_doNode_b28_r (N : Nat) (x1 : Int) (hx1 : zin x1) (x2 : Int) (hx2 : zin x2) (x3 : Int) (hx3 : zin x3) (σ : z_S) (hσ : zR σ) : zrel (zMod_doNode_b28 N x1 x2 x3 σ) (Mod_doNode_b28 N (zI x1) (zI x2) (zI x3) (zo σ)) := by
  unfold zMod_doNode_b28 Mod_doNode_b28
  refine zr_ite (zI_eq rfl (zl_12) hx3 (by decide)) ?_ ?_
  · exact zr_of (zMod_doNode_b34_r N _ hx1 _ hx2 _ hσ) (congr (congr (congrArg (Mod_doNode_b34 N) rfl) rfl) rfl)
  · exact zr_of (zMod_doNode_b62_r N _ hx1 _ hx2 _ hx3 _ hσ) (congr (congr (congr (congrArg (Mod_doNode_b62 N) rfl) rfl) rfl) rfl)
def zMod_doNode_b12 (N : Nat) (x1 : Int) (x2 : Int) (σ : z_S) : Option (Int × z_S) := if zIn x1 1300 then (zMod_row N 1 (σ.2 7 (x1).toNat) x2 0 0 0 σ).bind fun q24 => some (q24.1, q24.2) else none
theorem zMod_doNode_b12_r (N : Nat) (x1 : Int) (hx1 : zin x1) (x2 : Int) (hx2 : zin x2) (σ : z_S) (hσ : zR σ) : zrel (zMod_doNode_b12 N x1 x2 σ) (Mod_doNode_b12 N (zI x1) (zI x2) (zo σ)) := by
  unfold zMod_doNode_b12 Mod_doNode_b12
  refine zr_gg (zg_in rfl hx1) (fun g1 => ?_)
  refine zr_bind (zr_of (zMod_row_r N _ (by decide) _ (hσ.2 7 _) _ hx2 _ (by decide) _ (by decide) _ (by decide) _ hσ) (congr (congr (congr (congr (congr (congr (congrArg (Mod_row N) (zl_1)) (zo_get (j := 7) rfl rfl hx1)) rfl) (zl_0)) (zl_0)) (zl_0)) rfl)) (fun r24 s24σ hr24 hs24 => ?_)
  dsimp only
  exact zr_some rfl hr24 rfl hs24
def zMod_doNode_b0 (N : Nat) (x1 : Int) (x2 : Int) (σ : z_S) : Option (Int × z_S) := if zIn x1 1300 then if (σ.2 3 (x1).toNat) = 1 then zMod_doNode_b12 N x1 x2 σ else zMod_doNode_b28 N x1 x2 (σ.2 3 (x1).toNat) σ else none
theorem zMod_doNode_b0_r (N : Nat) (x1 : Int) (hx1 : zin x1) (x2 : Int) (hx2 : zin x2) (σ : z_S) (hσ : zR σ) : zrel (zMod_doNode_b0 N x1 x2 σ) (Mod_doNode_b0 N (zI x1) (zI x2) (zo σ)) := by
  unfold zMod_doNode_b0 Mod_doNode_b0
  refine zr_gg (zg_in rfl hx1) (fun g1 => ?_)
  refine zr_ite (zI_eq (zo_get (j := 3) rfl rfl hx1) (zl_1) (hσ.2 3 _) (by decide)) ?_ ?_
  · exact zr_of (zMod_doNode_b12_r N _ hx1 _ hx2 _ hσ) (congr (congr (congrArg (Mod_doNode_b12 N) rfl) rfl) rfl)
  · exact zr_of (zMod_doNode_b28_r N _ hx1 _ hx2 _ (hσ.2 3 _) _ hσ) (congr (congr (congr (congrArg (Mod_doNode_b28 N) rfl) rfl) (zo_get (j := 3) rfl rfl hx1)) rfl)
def zMod_doNode (N : Nat) (x1 : Int) (x2 : Int) (σ : z_S) : Option (Int × z_S) := zMod_doNode_b0 N x1 x2 σ
theorem zMod_doNode_r (N : Nat) (x1 : Int) (hx1 : zin x1) (x2 : Int) (hx2 : zin x2) (σ : z_S) (hσ : zR σ) : zrel (zMod_doNode N x1 x2 σ) (Mod_doNode N (zI x1) (zI x2) (zo σ)) := by
  unfold zMod_doNode Mod_doNode
  exact zr_of (zMod_doNode_b0_r N _ hx1 _ hx2 _ hσ) (congr (congr (congrArg (Mod_doNode_b0 N) rfl) rfl) rfl)
def zMod_anew_b52 (N : Nat) (x1 : Int) (x2 : Int) (σ : z_S) : Option (Int × z_S) := if zIn x2 1300 then if zIn x1 90000 then (zMod_row N 6 x2 (σ.2 20 (x1).toNat) (σ.2 21 (x1).toNat) (σ.2 22 (x1).toNat) (σ.1 11) σ).bind fun q86 => (zMod_row N 0 (σ.2 7 (x2).toNat) q86.1 0 0 0 q86.2).bind fun q92 => some (q92.1, q92.2) else none else none
theorem zMod_anew_b52_r (N : Nat) (x1 : Int) (hx1 : zin x1) (x2 : Int) (hx2 : zin x2) (σ : z_S) (hσ : zR σ) : zrel (zMod_anew_b52 N x1 x2 σ) (Mod_anew_b52 N (zI x1) (zI x2) (zo σ)) := by
  unfold zMod_anew_b52 Mod_anew_b52
  refine zr_gg (zg_in rfl hx2) (fun g1 => ?_)
  refine zr_gg (zg_in rfl hx1) (fun g2 => ?_)
  refine zr_bind (zr_of (zMod_row_r N _ (by decide) _ hx2 _ (hσ.2 20 _) _ (hσ.2 21 _) _ (hσ.2 22 _) _ (hσ.1 11) _ hσ) (congr (congr (congr (congr (congr (congr (congrArg (Mod_row N) (zl_6)) rfl) (zo_get (j := 20) rfl rfl hx1)) (zo_get (j := 21) rfl rfl hx1)) (zo_get (j := 22) rfl rfl hx1)) (zo_fld rfl 11)) rfl)) (fun r86 s86σ hr86 hs86 => ?_)
  dsimp only
  refine zr_bind (zr_of (zMod_row_r N _ (by decide) _ (hσ.2 7 _) _ hr86 _ (by decide) _ (by decide) _ (by decide) _ hs86) (congr (congr (congr (congr (congr (congr (congrArg (Mod_row N) (zl_0)) (zo_get (j := 7) rfl rfl hx2)) rfl) (zl_0)) (zl_0)) (zl_0)) rfl)) (fun r92 s92σ hr92 hs92 => ?_)
  dsimp only
  exact zr_some rfl hr92 rfl hs92
def zMod_anew_b26 (N : Nat) (k16 : Int → Int → Int → z_S → Option (Int × z_S)) (x1 : Int) (x2 : Int) (x3 : Int) (σ : z_S) : Option (Int × z_S) := if zin (2 * x3) then if zIn (2 * x3) 42 then if zin ((2 * x3) + 1) then if zIn ((2 * x3) + 1) 42 then if zin (x3 + 1) then k16 x1 x2 (x3 + 1) (zA (zA σ 17 ((2 * x3)).toNat (-1)) 17 (((2 * x3) + 1)).toNat (-1)) else none else none else none else none else none
theorem zMod_anew_b26_r (N : Nat) (k16 : Int → Int → Int → z_S → Option (Int × z_S)) (k16' : Int32 → Int32 → Int32 → g_S → Option (Int32 × g_S)) (hk16 : ∀ (y0 : Int) (_ : zin y0) (y1 : Int) (_ : zin y1) (y2 : Int) (_ : zin y2) (σ : z_S), zR σ → zrel (k16 y0 y1 y2 σ) (k16' (zI y0) (zI y1) (zI y2) (zo σ))) (x1 : Int) (hx1 : zin x1) (x2 : Int) (hx2 : zin x2) (x3 : Int) (hx3 : zin x3) (σ : z_S) (hσ : zR σ) : zrel (zMod_anew_b26 N k16 x1 x2 x3 σ) (Mod_anew_b26 N k16' (zI x1) (zI x2) (zI x3) (zo σ)) := by
  unfold zMod_anew_b26 Mod_anew_b26
  refine zr_g (fun g1 => ?_)
  refine zr_gg (zg_in (zI_mul (zl_2) rfl) g1) (fun g2 => ?_)
  refine zr_g (fun g3 => ?_)
  refine zr_gg (zg_in (zI_add (zI_mul (zl_2) rfl) (zl_1)) g3) (fun g4 => ?_)
  refine zr_g (fun g5 => ?_)
  exact zr_of (hk16 _ hx1 _ hx2 _ g5 _ (zR_A (a := 17) (i := _) (zR_A (a := 17) (i := _) hσ (by decide)) (by decide))) (congr (congr (congr (congrArg (k16') rfl) rfl) (zI_add rfl (zl_1))) (zo_A (a := 17) (zo_A (a := 17) rfl (zI_mul (zl_2) rfl) g1 (zl_m1)) (zI_add (zI_mul (zl_2) rfl) (zl_1)) g3 (zl_m1)))
def zMod_anew_b16 (N : Nat) (k16 : Int → Int → Int → z_S → Option (Int × z_S)) (x1 : Int) (x2 : Int) (x3 : Int) (σ : z_S) : Option (Int × z_S) := if zIn x2 1300 then if (σ.2 11 (x2).toNat) < x3 then zMod_anew_b52 N x1 x2 σ else zMod_anew_b26 N k16 x1 x2 x3 σ else none
theorem zMod_anew_b16_r (N : Nat) (k16 : Int → Int → Int → z_S → Option (Int × z_S)) (k16' : Int32 → Int32 → Int32 → g_S → Option (Int32 × g_S)) (hk16 : ∀ (y0 : Int) (_ : zin y0) (y1 : Int) (_ : zin y1) (y2 : Int) (_ : zin y2) (σ : z_S), zR σ → zrel (k16 y0 y1 y2 σ) (k16' (zI y0) (zI y1) (zI y2) (zo σ))) (x1 : Int) (hx1 : zin x1) (x2 : Int) (hx2 : zin x2) (x3 : Int) (hx3 : zin x3) (σ : z_S) (hσ : zR σ) : zrel (zMod_anew_b16 N k16 x1 x2 x3 σ) (Mod_anew_b16 N k16' (zI x1) (zI x2) (zI x3) (zo σ)) := by
  unfold zMod_anew_b16 Mod_anew_b16
  refine zr_gg (zg_in rfl hx2) (fun g1 => ?_)
  refine zr_ite (zI_lt (zo_get (j := 11) rfl rfl hx2) rfl (hσ.2 11 _) hx3) ?_ ?_
  · exact zr_of (zMod_anew_b52_r N _ hx1 _ hx2 _ hσ) (congr (congr (congrArg (Mod_anew_b52 N) rfl) rfl) rfl)
  · exact zr_of (zMod_anew_b26_r N k16 k16' hk16 _ hx1 _ hx2 _ hx3 _ hσ) (congr (congr (congr (congrArg (Mod_anew_b26 N k16') rfl) rfl) rfl) rfl)
def zMod_anew_l16 (N : Nat) : Nat → Int → Int → Int → z_S → Option (Int × z_S)
  | 0 => fun _ _ _ _ => none
  | n + 1 => fun x1 x2 x3 σ => zMod_anew_b16 N (zMod_anew_l16 N n) x1 x2 x3 σ
theorem zMod_anew_l16_r (N : Nat) (n : Nat) : ∀ (x1 : Int) (hx1 : zin x1) (x2 : Int) (hx2 : zin x2) (x3 : Int) (hx3 : zin x3) (σ : z_S) (_ : zR σ), zrel (zMod_anew_l16 N n x1 x2 x3 σ) (Mod_anew_l16 N n (zI x1) (zI x2) (zI x3) (zo σ)) := by
  induction n with
  | zero => intro x1 hx1 x2 hx2 x3 hx3 σ hσ r s h; cases h
  | succ n ih => intro x1 hx1 x2 hx2 x3 hx3 σ hσ; exact zMod_anew_b16_r N _ _ (fun x1 hx1 x2 hx2 x3 hx3 σ hσ => ih x1 hx1 x2 hx2 x3 hx3 σ hσ) x1 hx1 x2 hx2 x3 hx3 σ hσ
def zMod_anew_b0 (N : Nat) (x1 : Int) (σ : z_S) : Option (Int × z_S) := if zIn x1 90000 then if zIn (σ.2 19 (x1).toNat) 1300 then if zin ((σ.2 10 ((σ.2 19 (x1).toNat)).toNat) + 1) then zMod_anew_l16 N N x1 (σ.2 19 (x1).toNat) ((σ.2 10 ((σ.2 19 (x1).toNat)).toNat) + 1) σ else none else none else none
theorem zMod_anew_b0_r (N : Nat) (x1 : Int) (hx1 : zin x1) (σ : z_S) (hσ : zR σ) : zrel (zMod_anew_b0 N x1 σ) (Mod_anew_b0 N (zI x1) (zo σ)) := by
  unfold zMod_anew_b0 Mod_anew_b0
  refine zr_gg (zg_in rfl hx1) (fun g1 => ?_)
  refine zr_gg (zg_in (zo_get (j := 19) rfl rfl hx1) (hσ.2 19 _)) (fun g2 => ?_)
  refine zr_g (fun g3 => ?_)
  exact zr_of (zMod_anew_l16_r N N _ hx1 _ (hσ.2 19 _) _ g3 _ hσ) (congr (congr (congr (congrArg (Mod_anew_l16 N N) rfl) (zo_get (j := 19) rfl rfl hx1)) (zI_add (zo_get (j := 10) rfl (zo_get (j := 19) rfl rfl hx1) (hσ.2 19 _)) (zl_1))) rfl)
def zMod_anew (N : Nat) (x1 : Int) (σ : z_S) : Option (Int × z_S) := zMod_anew_b0 N x1 σ
theorem zMod_anew_r (N : Nat) (x1 : Int) (hx1 : zin x1) (σ : z_S) (hσ : zR σ) : zrel (zMod_anew N x1 σ) (Mod_anew N (zI x1) (zo σ)) := by
  unfold zMod_anew Mod_anew
  exact zr_of (zMod_anew_b0_r N _ hx1 _ hσ) (congr (congrArg (Mod_anew_b0 N) rfl) rfl)
