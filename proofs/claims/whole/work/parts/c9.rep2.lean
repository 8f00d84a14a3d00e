section PA
variable {N : Nat} {σ σ' μ μ' : z_S} {en fin lv ow gw kw : Int → Int} {ia : Int → Prop} {g g' : Nat → Int → Int} {r r' m p q n : Int}
/-- a step, the number written down, and on -/
theorem rnd2 {k x y : Int} (hN : 43 ≤ N) (m1 : rAll σ μ en fin lv ow gw kw ia g m) (m2 : rV μ m) (m3 : rLks σ μ en m) (m4 : rLive σ μ en (σ.2 18) (μ.1 16) m) (n0 : 0 ≤ n) (n1 : n < μ.1 8) (hk : μ.2 3 n.toNat = 16) (hx : zpx σ (σ.2 2 (en n).toNat) (g 0 m)) (hd : g 1 m < 2 * lv n) (m6 : μ.2 18 m.toNat ≠ 4 ∧ μ.2 18 m.toNat ≠ 5)
    (hk0 : 0 ≤ k) (hk1 : k ≤ μ.1 16 + 1) (hx2 : x = (if μ.2 4 n.toNat ≤ k then 0 else μ.2 4 n.toNat - k)) (hy2 : y = (if μ.2 5 n.toNat = 1000000 then 1000000 else μ.2 5 n.toNat - k)) (hb : μ.2 5 n.toNat = 1000000 ∨ k ≤ μ.2 5 n.toNat)
    (b3 : zGR (σ.2 18) (μ.2 17) (μ.1 7)) (h4 : g 4 m ≤ μ.1 11) (hsl : σ.1 23 + 3 * g 2 m + zps (σ.2 18) 20 ≤ 4 * μ.1 16) (hT : σ.1 23 ≤ 40004) (hro : μ.1 18 + 2 ≤ 7 * (μ.1 16 + 1) + 2) (hpi : μ.1 19 ≤ μ.1 16 + g 3 m) (hpp : μ.1 19 < 16000) (hcc : σ.1 22 < 10100) (hf : μ.1 16 ≠ μ.1 17) :
    ∃ p' σ' r' μ' g', ((zMachine_setCell N (63 + σ.2 3 (en n).toNat) k (zF σ 27 (σ.1 27 + 1))).bind fun q => zMachine_goOnOrEnd N (σ.2 3 (en n).toNat) k q.2) = some (p', σ') ∧ zMod_round N (μ.1 18) (zrow μ 4 n m x y 0) = some (r', μ') ∧
      rI σ' μ' en fin lv ow gw kw ia g' r' p' ∧ fC σ σ' ∧ fM μ μ' ∧ σ'.1 22 ≤ σ.1 22 + 1 ∧ σ'.1 27 = σ.1 27 + 1 ∧ cutC σ' = cutC σ := by
  obtain ⟨k1, k2, k3, k4, k5, k6, k7, k8, k9, k10, k11⟩ := (m1.1.2.2.1 n n0 n1).2.2.2.2.2.2 hk
  have hen := (m1.1.2.2.1 n n0 n1).2.1 (by omega)
  obtain ⟨N1, N2, N3, N4, N5, N6, N7, N8⟩ := id m1.2.2.2.1
  have hR0 : 0 ≤ μ.1 18 := by omega
  have s1 := rAll_st (k := μ.1 16 + 1) m1 m2 (by omega) (by omega)
  have s3 := rLks_st (k := μ.1 16 + 1) m3
  generalize hrp : σ.2 3 (en n).toNat = rp at *
  rw [show σ.1 27 + 1 = μ.1 16 + 1 by omega]
  obtain ⟨τ, c1, c2, c3, c4, c5, c6, c7⟩ := zcell_e (N := N) (σ := zF σ 27 (μ.1 16 + 1)) (c := 63 + rp) (v := k) s1.2.2.1 (by omega) (by omega) (by omega) (by omega) (by show σ.1 23 < 40100; omega)
  change τ.2 18 = zupd (σ.2 18) (63 + rp).toNat k at c4
  change σ.1 23 ≤ τ.1 23 at c6
  have c7' : τ.1 23 ≤ σ.1 23 + 1 := by
    change τ.1 23 ≤ σ.1 23 + _ at c7
    split at c7 <;> omega
  obtain ⟨t1, hc⟩ := rAll_set s1 m2 c2 c3 c5
  have hcc0 : cutC (zF σ 27 (μ.1 16 + 1)) = cutC σ := cutC_fr (zfr_F (ks := [27]) (js := []) zfr_rf (by simp)) (by simp) (by simp)
  have hct : cutC τ = cutC σ := hc.trans hcc0
  have hcm : cutM (zF μ 16 (μ.1 16 + 1)) = cutM μ := cutM_fr (zfr_F (ks := [16]) (js := []) zfr_rf (by simp)) (by simp) (by simp)
  have t3 : rLks τ (zF μ 16 (μ.1 16 + 1)) en m := rLks_fr hc rfl (c3.2 23 (by simp)) (c3.2 24 (by simp)) (fun _ _ _ => rfl) rfl s3
  have t4 : rLive τ (zF μ 16 (μ.1 16 + 1)) en (τ.2 18) (μ.1 16 + 1) m := by
    rw [c4]
    have := (rLive_rep (v := k) m1.1 m1.2.2.2.2.1 m2 n0 n1 hk (by unfold rDp; rw [if_pos hk]; exact hd) m6.2 m4).1
    rw [hrp] at this
    exact rLive_fr hct hcm (fun _ _ _ => rfl) (by omega) this
  -- the row of the round
  have hml : m < μ.1 18 := m2.2.1
  have u1 := rAll_add t1 m2 4 n m x y 0 0 0 0 0 0 m2.1 m2.2.1 (mk_t4 ⟨m2.1, m2.2.1⟩)
  have ho : oAg (μ.1 18) (zF μ 16 (μ.1 16 + 1)) (zrow (zF μ 16 (μ.1 16 + 1)) 4 n m x y 0) := zrow_ag (μ := zF μ 16 (μ.1 16 + 1)) hR0
  obtain ⟨z0, z18, z19, z20, z21, z22, z23⟩ := zrow_n (μ := zF μ 16 (μ.1 16 + 1)) (t := 4) (n := n) (m := m) (x := x) (y := y) (z := 0)
  have hm18 : (zrow (zF μ 16 (μ.1 16 + 1)) 4 n m x y 0).2 18 m.toNat = μ.2 18 m.toNat := ho 18 (by omega) (by omega) _ (by have := m2.1; omega)
  have u2 : rV (zrow (zF μ 16 (μ.1 16 + 1)) 4 n m x y 0) m := ⟨m2.1, by rw [z0]; show m < μ.1 18 + 1; omega, by rw [hm18]; exact m6.1⟩
  have u3 : rLks τ (zrow (zF μ 16 (μ.1 16 + 1)) 4 n m x y 0) en m := rLks_ag rfl zrow_cut ho t1.2.2.2.2.1 m2 (fun k h => (t3 k h).2.1) (fun i _ _ => ⟨rfl, rfl⟩) (fun k _ => ⟨rfl, rfl⟩) t3
  have u4 : rLive τ (zrow (zF μ 16 (μ.1 16 + 1)) 4 n m x y 0) en (τ.2 18) (μ.1 16 + 1) m := rLive_ag rfl zrow_cut ho t1.2.2.2.2.1 m2 (Int.le_refl _) t4
  have gm : ∀ j, gup g (μ.1 18) 0 0 0 0 0 j m = g j m := fun j => gup_old j m hml
  have τ2 : τ.2 2 = σ.2 2 := c3.2 2 (by simp)
  have τ3 : τ.2 3 = σ.2 3 := c3.2 3 (by simp)
  have hzpx : ∀ a b, zpx σ a b → zpx τ a b := fun a b h => by unfold zpx at h ⊢; rw [c3.2 1 (by simp), c3.2 2 (by simp), c3.1 4 (by simp)]; exact h
  have hrp3 : τ.2 3 (en n).toNat = rp := by rw [τ3]; exact hrp
  have hR := rnd (k := k) (x := x) (y := y) (n := n) u1 u2 u3 u4 n0 n1 hk (by rw [τ2]; show zpx τ _ (gup g (μ.1 18) 0 0 0 0 0 0 m); rw [gm]; exact hzpx _ _ hx) (by show gup g (μ.1 18) 0 0 0 0 0 1 m < _; rw [gm]; exact hd) (by rw [hm18]; exact m6) (by rw [hrp3, c4, zupd_s]) hk0 hk1 hx2 hy2 hb (by
      rw [c4]
      intro i hi
      rw [zupd_n (by omega), zupd_n (by omega)]
      exact b3 i hi) (by show gup g (μ.1 18) 0 0 0 0 0 4 m ≤ μ.1 11; rw [gm]; exact h4) (by
      show τ.1 23 + 3 * gup g (μ.1 18) 0 0 0 0 0 2 m + zps (τ.2 18) 20 ≤ 4 * (μ.1 16 + 1) - 1
      rw [gm, c4, zps_hi (by omega)]
      omega) (by show μ.1 18 + 1 + 1 ≤ 7 * (μ.1 16 + 1) + 2; omega) (by show μ.1 19 + 1 ≤ μ.1 16 + 1 + gup g (μ.1 18) 0 0 0 0 0 3 m; rw [gm]; omega)
  obtain ⟨p', σ', r', μ', g', e1, e2, e3, e4, e5, e6, e7, e8⟩ := hR
  rw [hrp3] at e1
  obtain ⟨w0, w18, w19, w20, w21, w22, w23⟩ := zrow_n (μ := μ) (t := 4) (n := n) (m := m) (x := x) (y := y) (z := 0)
  refine ⟨p', σ', r', μ', g', ?_, ?_, e3, zfr_tr fC_27 (zfr_tr (zfr_up c3 (by simp) (by simp)) e4), zfr_tr fM_16 (zfr_tr fM_row e5), ?_, ?_, e8.trans hct⟩
  · rw [c1]
    simp only [Option.bind_some]
    have h12 : τ.2 12 rp.toNat = en n := by rw [c3.2 12 (by simp)]; exact k5.2.2.2.2
    rw [zgo_e k5.1 k5.2.1 (by rw [h12]; omega) (by rw [h12]; omega) (by rw [c3.1 22 (by simp)]; show 0 ≤ σ.1 22; omega) (by rw [c3.1 22 (by simp)]; exact hcc), h12, e1]
  · rw [zround_e (μ := zrow μ 4 n m x y 0) hN hR0 (by rw [w0]; omega) (by rw [w0]; omega) hf N2 (by show μ.1 16 ≤ 10000; omega) (by rw [w19]; exact n0) (by rw [w19]; have := m1.1.1.2.1; omega) N6 hpp, w19, w20, w21, w22, zrow_16]
    exact congrArg some e2
  · rw [c3.1 22 (by simp)] at e6; exact e6
  · rw [e7, c3.1 27 (by simp)]; rfl
/-- a repetition -/
theorem st_rp (hN : 43 ≤ N) (h : rI σ μ en fin lv ow gw kw ia g r p) (ht : μ.2 18 r.toNat = 0) (hk : μ.2 3 (μ.2 19 r.toNat).toNat = 16) (h18 : σ.2 1 p.toNat ≠ 18) : oCC N σ μ en fin lv ow gw kw ia r p ∨ oD N σ μ r p := by
  obtain ⟨hr, hp, h8, hR, hg, hC, hP, hT, hF⟩ := rBd h
  obtain ⟨m1, m2, m3, m4, m5, m6, m7⟩ := rNx h (by omega) (by omega)
  generalize hn : μ.2 19 r.toNat = n at hk
  generalize hm : μ.2 20 r.toNat = m at m1 m2 m3 m4 m5 m6 m7
  obtain ⟨hpe, hnn, hx, hd, ⟨e1, e2, e3, e4⟩, hsl, hex, hen⟩ := nd h ht hn hm (by omega) h18
  obtain ⟨hA, b1, b2, b3, b4, b5, b6, b7, b8, b9⟩ := h
  obtain ⟨k1, k2, k3, k4, k5, k6, k7, k8, k9, k10, k11⟩ := (hA.1.2.2.1 n hnn.1 hnn.2).2.2.2.2.2.2 hk
  have hR0 : 0 ≤ μ.1 18 := by have := hr.1; have := hr.2.1; omega
  have hpx : pex μ en n = en n := by unfold pex; rw [if_neg (by omega)]
  rw [hpx] at hx
  have hd' : g 1 m < 2 * lv n := by unfold rDp at hd; rw [if_pos hk] at hd; exact hd
  obtain ⟨N1, N2, N3, N4, N5, N6, N7, N8⟩ := id hA.2.2.2.1
  obtain ⟨w0, w18, w19, w20, w21, w22, w23⟩ := zrow_n (μ := μ) (t := 4) (n := n) (m := m) (x := μ.2 4 n.toNat) (y := μ.2 5 n.toNat) (z := 0)
  have hml : zMod_perform N r μ = some (μ.1 18, zrow μ 4 n m (μ.2 4 n.toNat) (μ.2 5 n.toNat) 0) := by
    rw [zQ_0 hr.1 hR.2 ht, hn, hm, zD_16 hnn.1 (by omega) hk, zrow_e hR0 (by omega)]
  have hms := zMs_of hml hr.1 hR.2 (by omega) hR0
  have hq4 := zQ_4 (N := N) (μ := zrow μ 4 n m (μ.2 4 n.toNat) (μ.2 5 n.toNat) 0) hR0 (by omega) w18
  have hk12 : σ.2 1 p.toNat = 12 := by rw [hpe]; exact k1
  by_cases hfu : μ.1 16 = μ.1 17
  · right
    refine ⟨2, σ, _, by omega, zCs_of (zP_no hp.1 hp.2 (by omega) (by omega) (by omega)) hp.1 (by decide), zMo_tr hms (zMo_of (by rw [hq4]; exact zround_no hR0 (by omega) hfu) hR0 (by omega) (by rw [w18]; decide)), zfr_rf, fM_row, N1, hA.2.2.1.2.2.1, rfl⟩
  · left
    have := rnd2 (N := N) (k := 0) (x := μ.2 4 n.toNat) (y := μ.2 5 n.toNat) hN m1 m2 m3 m4 hnn.1 hnn.2 hk hx hd' m6 (by decide) (by omega) (by split <;> omega) (by split <;> omega) (Or.inr k9.2.2.1) b3 (by omega) (by omega) (by omega) (by omega) (by omega) (by omega) (by omega) hfu
    obtain ⟨p', σ', r', μ', g', c1, c2, c3, c4, c5, c6, c7, c8⟩ := this
    have hf3 : σ.2 3 p.toNat = σ.2 3 (en n).toNat := by rw [hpe]
    have hcl : zMachine_perform N p σ = some (p', σ') := by
      rw [zP_12 hp.1 hp.2 hk12 (by omega) hF.1 hF.2.1 (by rw [hf3]; exact k5.1) (by rw [hf3]; exact k5.2.1), hf3]
      exact c1
    have hb := rBd c3
    refine ⟨2, p', σ', r', μ', g', by omega, zCs_of hcl hp.1 (by have := hb.2.1; omega), zMs_tr hms (zMs_of (by rw [hq4]; exact c2) hR0 (by omega) (by rw [w18]; decide) hb.1.1), c3, c4, c5, ?_⟩
    have := (hh_bd σ lv ow p').2
    unfold Mc
    rw [hh_mv c8, hh_lo (p := p) (by omega), c7, c4.1 25 (by simp)]
    omega
/-- a round's end -/
theorem st_re (hN : 43 ≤ N) (h : rI σ μ en fin lv ow gw kw ia g r p) (ht : μ.2 18 r.toNat = 6) (h18 : σ.2 1 p.toNat ≠ 18) : oCC N σ μ en fin lv ow gw kw ia r p ∨ oD N σ μ r p ∨ oE N σ μ en fin lv ow gw kw ia r p := by
  obtain ⟨hr, hp, h8, hR, hg, hC, hP, hT, hF⟩ := rBd h
  obtain ⟨m1, m2, m3, m4, m5, m6, m7⟩ := rNx h (by omega) (by omega)
  obtain ⟨hA, b1, b2, b3, b4, b5, b6, b7, b8, b9⟩ := h
  have hq := hA.2.2.2.2.1 r hr.1 hr.2.1
  obtain ⟨a1, a2, a3, a4, a5, a6, a7, a8, a9, a10, a11, a12, -⟩ := hq
  obtain ⟨n0, n1⟩ := a5 (by omega) (by omega) (by omega)
  obtain ⟨hk, g0, hx, d1, d2, d3, d4, d5⟩ := a12 ht
  obtain ⟨o1, o2, o3⟩ := (b4 0).2.1 (Or.inr ht)
  have o4 := (b4 0).2.2 ht
  change 0 ≤ σ.2 18 (63 + σ.2 3 (en (μ.2 19 r.toNat)).toNat).toNat at o1
  change σ.2 18 (63 + σ.2 3 (en (μ.2 19 r.toNat)).toNat).toNat ≤ _ at o2
  change rXY (σ.2 18 (63 + σ.2 3 (en (μ.2 19 r.toNat)).toNat).toNat) (μ.2 4 (μ.2 19 r.toNat).toNat) (μ.2 5 (μ.2 19 r.toNat).toNat) (μ.2 21 r.toNat) (μ.2 22 r.toNat) at o3
  change σ.2 18 (163 + σ.2 3 (en (μ.2 19 r.toNat)).toNat).toNat = μ.2 23 r.toNat at o4
  dsimp only at g0 hx d1 d2 d3 d4 d5
  clear a2 a3 a4 a5 a6 a7 a8 a9 a10 a11 a12
  generalize hn : μ.2 19 r.toNat = n at *
  generalize hm : μ.2 20 r.toNat = m at *
  generalize hxx : μ.2 21 r.toNat = x at *
  generalize hyy : μ.2 22 r.toNat = y at *
  generalize hzz : μ.2 23 r.toNat = z at *
  obtain ⟨k1, k2, k3, k4, k5, k6, k7, k8, k9, k10, k11⟩ := (hA.1.2.2.1 n n0 n1).2.2.2.2.2.2 hk
  have hen := (hA.1.2.2.1 n n0 n1).2.1 (by omega)
  have hpe : p = en n + 2 := by rw [← g0]; exact zpx_no b2 h18
  obtain ⟨N1, N2, N3, N4, N5, N6, N7, N8⟩ := id hA.2.2.2.1
  obtain ⟨T1, T2, T3, T4, T5, T6, T7, T8, T9⟩ := id hA.2.1
  have hR0 : 0 ≤ μ.1 18 := by have := hr.1; have := hr.2.1; omega
  have hk14 : σ.2 1 p.toNat = 14 := by rw [hpe]; exact k3
  have hf3 : σ.2 3 p.toNat = σ.2 3 (en n).toNat := by rw [hpe]; exact k5.2.2.2.1
  have hsl := rSl_t (μ := μ) (r := r) (by omega) (by omega) (by omega)
  have hex : rEx μ r = 0 := by unfold rEx; rw [if_neg (by omega), if_neg (by omega)]
  obtain ⟨q1, q2, q3, q4, q5, q6⟩ := k9
  generalize hrp : σ.2 3 (en n).toNat = rp at *
  generalize hkk : σ.2 18 (63 + rp).toNat = k at *
  obtain ⟨x1, x2, x3⟩ := o3
  have hle : k < σ.2 7 rp.toNat ↔ x ≠ 0 := by
    unfold pBnd at q2
    rw [x1]
    split <;> omega
  -- the class's first words
  have r1 : zRows_read N 18 (63 + rp) σ = some (k, σ) := by rw [zrr (by decide) (by omega) (by show _ < (263 : Int); omega), hkk]
  have r2 : zRows_read N 7 rp σ = some (σ.2 7 rp.toNat, σ) := zrr (by decide) (by omega) (by show _ < (100 : Int); omega)
  have r3 : zRows_read N 18 (163 + rp) σ = some (z, σ) := by rw [zrr (by decide) (by omega) (by show _ < (263 : Int); omega), o4]
  have i1 : zin (63 + rp) := ⟨by omega, by omega⟩
  have i2 : zin (163 + rp) := ⟨by omega, by omega⟩
  have i3 : zin (k + 1) := ⟨by omega, by omega⟩
  have h10 : ((1 : Nat) = 0) = False := by simp
  have hcl0 : zMachine_perform N p σ = if x = 0 ∧ μ.1 11 = z then some (-2, σ) else (zMachine_takesStep N σ).bind fun q => if q.1 = 0 then some (-3, q.2) else (zMachine_setCell N (63 + rp) (k + 1) q.2).bind fun q => zMachine_goOnOrEnd N rp (k + 1) q.2 := by
    rw [zP_14 hp.1 hp.2 hk14, hf3]
    simp only [zMachine_endRepetition_u, if_pos i1, if_pos i2, if_pos i3, r1, r2, r3, Option.bind_some, h10, if_true, if_false, bind_id]
    by_cases e : k < σ.2 7 rp.toNat
    · rw [if_pos e, if_neg (fun w => hle.mp e w.1)]
    · rw [if_neg e]
      have hx0 : x = 0 := by
        by_cases w : x = 0
        · exact w
        · exact absurd (hle.mpr w) e
      by_cases e2 : σ.1 24 = z
      · rw [if_pos e2, if_pos ⟨hx0, by omega⟩]
      · rw [if_neg e2, if_neg (fun w => e2 (by omega))]
  -- the reference's
  have j1 : zIn r 90000 := ⟨hr.1, by omega⟩
  have hx0 : 0 ≤ x := by rw [x1]; split <;> omega
  have hml0 : zMod_perform N r μ = if x = 0 ∧ μ.1 11 = z then some (-1, μ) else some (μ.1 18, zrow μ 4 n m (if x = 0 then 0 else x - 1) (if y = 1000000 then 1000000 else y - 1) 0) := by
    have hy1 : -1000000 ≤ y ∧ y ≤ 1000000 := by rw [x2]; split <;> omega
    have hx1 : x ≤ 1000000 := by rw [x1]; split <;> omega
    have i4 : zin (y - 1) := ⟨by omega, by omega⟩
    have i5 : zin (x - 1) := ⟨by omega, by omega⟩
    rw [zQ_6 hr.1 hR.2 ht]
    simp only [zMod_endRound_u, if_pos j1, hn, hm, hxx, hyy, hzz, if_pos i4, if_pos i5, zrow_e hR0 (show μ.1 18 < 90000 by omega), Option.bind_some]
    by_cases e1 : x = 0 <;> by_cases e2 : μ.1 11 = z <;> by_cases e3 : y = 1000000 <;> simp [e1, e2, e3]
  by_cases hfail : x = 0 ∧ μ.1 11 = z
  · right; right
    rw [if_pos hfail] at hcl0 hml0
    refine ⟨σ, μ, m, g, zCf_of hcl0 hp.1, zMf_of hml0 hr.1 hR.2 (by omega), ⟨m1, m2, m3, by omega, by omega, by omega⟩, zfr_rf, zfr_rf, ?_⟩
    unfold Mc
    rw [hh_14 hk14]
    omega
  · rw [if_neg hfail] at hcl0 hml0
    generalize hx' : (if x = 0 then 0 else x - 1) = x' at hml0
    generalize hy' : (if y = 1000000 then 1000000 else y - 1) = y' at hml0
    have hms := zMs_of hml0 hr.1 hR.2 (by omega) hR0
    obtain ⟨w0, w18, w19, w20, w21, w22, w23⟩ := zrow_n (μ := μ) (t := 4) (n := n) (m := m) (x := x') (y := y') (z := 0)
    have hq4 := zQ_4 (N := N) (μ := zrow μ 4 n m x' y' 0) hR0 (by omega) w18
    by_cases hfu : μ.1 16 = μ.1 17
    · right; left
      rw [zstep_no (by omega)] at hcl0
      simp only [Option.bind_some, if_true] at hcl0
      refine ⟨2, σ, _, by omega, zCs_of hcl0 hp.1 (by decide), zMo_tr hms (zMo_of (by rw [hq4]; exact zround_no hR0 (by omega) hfu) hR0 (by omega) (by rw [w18]; decide)), zfr_rf, fM_row, N1, hA.2.2.1.2.2.1, rfl⟩
    · left
      rw [zstep (by omega) hF.1 hF.2.1] at hcl0
      simp only [Option.bind_some, Int.reduceEq, if_false] at hcl0
      have := rnd2 (N := N) (k := k + 1) (x := x') (y := y') hN m1 m2 m3 m4 n0 n1 hk hx (by omega) m6 (by omega) (by omega) (by rw [← hx', x1]; split <;> split <;> omega) (by rw [← hy', x2]; split <;> split <;> omega) (by omega) b3 (by omega) (by omega) (by omega) (by omega) (by omega) (by omega) (by omega) hfu
      rw [hrp] at this
      obtain ⟨p', σ', r', μ', g', c1, c2, c3, c4, c5, c6, c7, c8⟩ := this
      have hcl : zMachine_perform N p σ = some (p', σ') := by rw [hcl0]; exact c1
      have hb := rBd c3
      refine ⟨2, p', σ', r', μ', g', by omega, zCs_of hcl hp.1 (by have := hb.2.1; omega), zMs_tr hms (zMs_of (by rw [hq4]; exact c2) hR0 (by omega) (by rw [w18]; decide) hb.1.1), c3, c4, c5, ?_⟩
      have := (hh_bd σ lv ow p').2
      unfold Mc
      rw [hh_mv c8, hh_14 hk14, c7, c4.1 25 (by simp)]
      omega
end PA
