/-! nodes -/
section OX
variable {N : Nat} {σ σ' μ μ' : z_S} {en fin lv ow gw kw : Int → Int} {ia : Int → Prop} {g g' : Nat → Int → Int} {r r' m p q n : Int}
theorem nd (h : rI σ μ en fin lv ow gw kw ia g r p) (ht : μ.2 18 r.toNat = 0) (hn : μ.2 19 r.toNat = n) (hm : μ.2 20 r.toNat = m) (hk : 3 ≤ μ.2 3 n.toNat) (h18 : σ.2 1 p.toNat ≠ 18) :
    p = en n ∧ (0 ≤ n ∧ n < μ.1 8) ∧ zpx σ (σ.2 2 (pex μ en n).toNat) (g 0 m) ∧ g 1 m < rDp μ lv n ∧ (g 1 r = g 1 m ∧ g 2 r = g 2 m ∧ g 3 r = g 3 m ∧ g 4 r = g 4 m) ∧ rSl μ r = 0 ∧ rEx μ r = 2 ∧ (1 ≤ en n ∧ en n + 2 < 602 ∧ 1 ≤ lv n ∧ lv n ≤ 41) := by
  obtain ⟨hA, b1, b2, -⟩ := h
  have hq := hA.2.2.2.2.1 r b1.1 b1.2.1
  obtain ⟨a1, a2, a3, a4, a5, a6, a7, -⟩ := hq
  obtain ⟨n0, n1⟩ := a5 (by omega) (by omega) (by omega)
  obtain ⟨e1, e2, e3, e4⟩ := a6 (by omega)
  have a7' := a7 ht
  dsimp only at e1 e2 e3 e4 a7'
  rw [hm] at e1 e2 e3 e4 a7'
  rw [hn] at n0 n1 a7'
  rcases a7' with ⟨k, -⟩ | ⟨k1, k2, k3, k4⟩
  · omega
  · refine ⟨by rw [← k2]; exact zpx_no b2 h18, ⟨n0, n1⟩, k3, by omega, ⟨e1, e2, e3, e4⟩, ?_, ?_, (hA.1.2.2.1 n n0 n1).2.1 (by omega)⟩
    · exact rSl_t (by omega) (by omega) (fun _ => by rw [hn]; omega)
    · unfold rEx; rw [if_pos ht, hn, if_neg (by omega)]
/-- a plain parenthesis -/
theorem st_pl (h : rI σ μ en fin lv ow gw kw ia g r p) (ht : μ.2 18 r.toNat = 0) (hk : μ.2 3 (μ.2 19 r.toNat).toNat = 13) (h18 : σ.2 1 p.toNat ≠ 18) : oCC N σ μ en fin lv ow gw kw ia r p := by
  obtain ⟨hr, hp, h8, hR, hg, hC, hP, hT, hF⟩ := rBd h
  obtain ⟨m1, m2, m3, m4, m5, m6, m7⟩ := rNx h (by omega) (by omega)
  generalize hn : μ.2 19 r.toNat = n at hk
  obtain ⟨hpe, hnn, hx, hd, ⟨e1, e2, e3, e4⟩, hsl, hex, hen⟩ := nd h ht hn rfl (by omega) h18
  obtain ⟨hA, b1, b2, b3, b4, b5, b6, b7, b8, b9⟩ := h
  obtain ⟨k1, k2, k3, k4, k5, k6, k7, k8, k9⟩ := (hA.1.2.2.1 n hnn.1 hnn.2).2.2.2.2.2.1 (by omega) (by omega)
  have hR0 : 0 ≤ μ.1 18 := by have := hr.1; have := hr.2.1; omega
  have hcl2 := hA.1.2.2.2.2.2.2.1 n hnn.1 hnn.2 (by omega) (by omega)
  have hpx : pex μ en n = en n + 1 := by unfold pex; rw [if_pos ⟨by omega, by omega⟩]
  rw [hpx] at hx
  obtain ⟨x1, x2, x3, x4⟩ := rAdc (t := 0) (n := μ.2 7 n.toNat) (x := 0) (y := 0) (z := 0) m1 m2 m3 (by decide) (by decide) (mk_t0c m7 ⟨m5.1, by have := hr.2.1; omega⟩ m6 ⟨k5.1, k5.2.1⟩ k5.2.2 ⟨k6.1, k6.2.1, k6.2.2.1⟩ (by rw [k6.2.2.2.1]; exact zpx_st hx (by omega) hcl2 (by rw [k2, hk]; decide)) (by
      rw [k6.2.2.2.2]
      unfold rDp at hd
      rw [if_neg (by omega)] at hd
      show g 1 (μ.2 20 r.toNat) < _
      omega)) (dy_0 (by decide) (by decide) (by decide)) m4
  obtain ⟨z0, z18, z19, z20, -, -, -⟩ := zrow_n (μ := μ) (t := 0) (n := μ.2 7 n.toNat) (m := μ.2 20 r.toNat) (x := 0) (y := 0) (z := 0)
  have hml : zMod_perform N r μ = some (μ.1 18, zrow μ 0 (μ.2 7 n.toNat) (μ.2 20 r.toNat) 0 0 0) := by
    rw [zQ_0 hr.1 hR.2 ht, hn, zD_13 hnn.1 (by omega) hk, zrow_e hR0 (by omega)]
  have hcl : zMachine_perform N p σ = some (σ.2 2 p.toNat, σ) := zP_17 hp.1 hp.2 (Or.inl (by rw [hpe, k1, hk]; decide))
  have hp' : σ.2 2 p.toNat = en (μ.2 7 (μ.2 7 n.toNat).toNat) := by rw [hpe]; exact k7
  have hpos := (hA.1.2.2.1 _ k6.1 k6.2.1).2.1 (by omega)
  refine ⟨1, _, _, _, _, _, by omega, zCs_of hcl hp.1 (by rw [hp']; omega), zMs_of hml hr.1 hR.2 (by omega) hR0, ⟨x1, x2, ?_, b3, x4, x3, ?_, ?_, ?_, ?_⟩, zfr_rf, fM_row, ?_⟩
  · rw [gup_0.1, hp']; exact zpx_rf
  · rw [gup_0.2.2.2.2]; show g 4 (μ.2 20 r.toNat) ≤ μ.1 11; omega
  · rw [gup_0.2.2.1]
    have h1 := rSl_0 (μ := zrow μ 0 (μ.2 7 n.toNat) (μ.2 20 r.toNat) 0 0 0) (r := μ.1 18) (by rw [z18]; decide)
    show σ.1 23 + 3 * g 2 (μ.2 20 r.toNat) + zps (σ.2 18) 20 ≤ 4 * μ.1 16 + _
    omega
  · have h1 : rEx (zrow μ 0 (μ.2 7 n.toNat) (μ.2 20 r.toNat) 0 0 0) (μ.1 18) = 4 := by unfold rEx; rw [z18, if_pos rfl, z19]; exact if_pos k5.2.2
    rw [z0]
    show μ.1 18 + 1 ≤ 7 * μ.1 16 + 2 + _
    omega
  · rw [gup_0.2.2.2.1]
    show μ.1 19 ≤ μ.1 16 + g 3 (μ.2 20 r.toNat)
    omega
  · have ha := ((hA.1.2.2.1 _ k6.1 k6.2.1).2.2.2.1 k6.2.2.1).1.1
    unfold Mc
    rw [hh_op (p := p) (by rw [hpe, k1, hk]; omega), hp', hh_lo (by rw [ha]; decide)]
    omega
/-- a group opens -/
theorem st_gr (h : rI σ μ en fin lv ow gw kw ia g r p) (ht : μ.2 18 r.toNat = 0) (hk : μ.2 3 (μ.2 19 r.toNat).toNat = 12) (h18 : σ.2 1 p.toNat ≠ 18) : oCC N σ μ en fin lv ow gw kw ia r p := by
  obtain ⟨hr, hp, h8, hR, hg, hC, hP, hT, hF⟩ := rBd h
  obtain ⟨m1, m2, m3, m4, m5, m6, m7⟩ := rNx h (by omega) (by omega)
  generalize hn : μ.2 19 r.toNat = n at hk
  generalize hm : μ.2 20 r.toNat = m at m1 m2 m3 m4 m5 m6 m7
  obtain ⟨hpe, hnn, hx, hd, ⟨e1, e2, e3, e4⟩, hsl, hex, hen⟩ := nd h ht hn hm (by omega) h18
  obtain ⟨hA, b1, b2, b3, b4, b5, b6, b7, b8, b9⟩ := h
  obtain ⟨k1, k2, k3, k4, k5, k6, k7, k8, k9⟩ := (hA.1.2.2.1 n hnn.1 hnn.2).2.2.2.2.2.1 (by omega) (by omega)
  obtain ⟨j1, j2, j3, j4⟩ := k8 hk
  have hR0 : 0 ≤ μ.1 18 := by have := hr.1; have := hr.2.1; omega
  have hpx : pex μ en n = en n + 1 := by unfold pex; rw [if_pos ⟨by omega, by omega⟩]
  rw [hpx] at hx
  obtain ⟨T1, T2, T3, T4, T5, T6, T7, T8, T9⟩ := hA.2.1
  -- the class's cell
  obtain ⟨τ, c1, c2, c3, c4, c5, c6, c7⟩ := zcell_e (N := N) (σ := σ) (c := 42 + μ.2 4 n.toNat) (v := σ.1 24) hA.2.2.1 (by omega) (by omega) (by omega) (by omega) (by omega)
  obtain ⟨s1, hc⟩ := rAll_set m1 m2 c2 c3 c5
  have s3 : rLks τ μ en m := rLks_fr hc rfl (c3.2 23 (by simp)) (c3.2 24 (by simp)) (fun _ _ _ => rfl) rfl m3
  have s4 : rLive τ μ en (τ.2 18) (μ.1 16) m := by
    rw [c4]
    exact rLive_fr hc rfl (fun _ _ _ => rfl) (Int.le_refl _) (rLive_grp hA.1 hA.2.2.2.2.1 m2 hnn.1 hnn.2 hk hd m4)
  have hzpx : ∀ a b, zpx σ a b → zpx τ a b := fun a b h => by unfold zpx at h ⊢; rw [c3.2 1 (by simp), c3.2 2 (by simp), c3.1 4 (by simp)]; exact h
  have hd' : g 1 m < 2 * lv n + 1 := by unfold rDp at hd; rw [if_neg (by omega)] at hd; exact hd
  obtain ⟨x1, x2, x3, x4⟩ := rAdc (t := 3) (n := n) (x := μ.1 11) (y := 0) (z := 0) s1 m2 s3 (by decide) (by decide) (mk_t3 m7 ⟨m5.1, by have := hr.2.1; omega⟩ m6 hnn hk (by rw [c3.2 2 (by simp)]; exact hzpx _ _ hx) hd' (by show g 4 m ≤ μ.1 11; omega)) (c := τ.2 18) (T := μ.1 16) ⟨fun _ => by rw [c4, zupd_s, T1], fun h => absurd h (by decide), fun h => absurd h (by decide)⟩ s4
  obtain ⟨z0, z18, z19, z20, -, -, -⟩ := zrow_n (μ := μ) (t := 3) (n := n) (m := m) (x := μ.1 11) (y := 0) (z := 0)
  obtain ⟨y1, y2, y3, y4⟩ := rAdc (t := 0) (n := μ.2 7 n.toNat) (x := 0) (y := 0) (z := 0) x1 x2 x3 (by decide) (by decide) (mk_t0c (bOK_of x1 x2) ⟨hR0, by rw [z0]; omega⟩ (by rw [z18]; exact ⟨by decide, by decide⟩) ⟨k5.1, k5.2.1⟩ k5.2.2 ⟨k6.1, k6.2.1, k6.2.2.1⟩ (by
      show zpx τ (fin (μ.2 7 (μ.2 7 n.toNat).toNat)) _
      rw [gup_0.1, k6.2.2.2.1]; exact zpx_rf) (by
      rw [gup_0.2.1]
      show 2 * lv n + 1 < 2 * lv (μ.2 7 (μ.2 7 n.toNat).toNat)
      omega)) (dy_0 (by decide) (by decide) (by decide)) x4
  rw [z0] at y1 y2 y3 y4
  obtain ⟨w0, w18, w19, w20, -, -, -⟩ := zrow_n (μ := zrow μ 3 n m (μ.1 11) 0 0) (t := 0) (n := μ.2 7 n.toNat) (m := μ.1 18) (x := 0) (y := 0) (z := 0)
  rw [z0] at w0 w18 w19 w20
  have hml : zMod_perform N r μ = some (μ.1 18 + 1, zrow (zrow μ 3 n m (μ.1 11) 0 0) 0 (μ.2 7 n.toNat) (μ.1 18) 0 0 0) := by
    rw [zQ_0 hr.1 hR.2 ht, hn, hm, zD_12 hnn.1 (by omega) hk, zrow_e hR0 (by omega)]
    simp only [Option.bind_some]
    rw [zrow_e (by rw [z0]; omega) (by rw [z0]; omega), z0]
  have hf3 : σ.2 3 p.toNat = μ.2 4 n.toNat := by rw [hpe]; exact j1
  have hcl : zMachine_perform N p σ = some (σ.2 2 p.toNat, τ) := by
    rw [zP_15 hp.1 hp.2 (by rw [hpe, k1, hk]; decide) (by omega) (by omega), hf3, c1]
    rfl
  have hp' : σ.2 2 p.toNat = en (μ.2 7 (μ.2 7 n.toNat).toNat) := by rw [hpe]; exact k7
  have hpos := (hA.1.2.2.1 _ k6.1 k6.2.1).2.1 (by omega)
  have hzps : zps (τ.2 18) 20 = zps (σ.2 18) 20 := by rw [c4]; exact zps_hi (by omega)
  refine ⟨1, _, _, _, _, _, by omega, zCs_of hcl hp.1 (by rw [hp']; omega), zMs_of hml hr.1 hR.2 (by omega) (by omega), ⟨y1, y2, ?_, ?_, y4, y3, ?_, ?_, ?_, ?_⟩, zfr_up c3 (by simp) (by simp), zfr_tr fM_row fM_row, ?_⟩
  · rw [gup_0.1, hp']; exact zpx_rf
  · show zGR (τ.2 18) (μ.2 17) (μ.1 7)
    rw [c4]
    intro k hk2
    rw [zupd_n (by omega), zupd_n (by omega)]
    exact b3 k hk2
  · rw [gup_0.2.2.2.2, gup_0.2.2.2.2]; show μ.1 11 ≤ μ.1 11; omega
  · rw [gup_0.2.2.1, gup_0.2.2.1, hzps]
    have h1 : rSl (zrow (zrow μ 3 n m (μ.1 11) 0 0) 0 (μ.2 7 n.toNat) (μ.1 18) 0 0 0) (μ.1 18 + 1) = 4 := by unfold rSl; rw [w18, if_neg (by decide), w19]; exact if_pos (Or.inr ⟨rfl, k5.2.2⟩)
    rw [h1]
    show τ.1 23 + 3 * (g 2 m + 1) + zps (σ.2 18) 20 ≤ 4 * μ.1 16 + 4
    have : τ.1 23 ≤ σ.1 23 + 1 := by split at c7 <;> omega
    omega
  · have h1 : rEx (zrow (zrow μ 3 n m (μ.1 11) 0 0) 0 (μ.2 7 n.toNat) (μ.1 18) 0 0 0) (μ.1 18 + 1) = 4 := by unfold rEx; rw [w18, if_pos rfl, w19]; exact if_pos k5.2.2
    rw [w0, h1]
    show μ.1 18 + 1 + 1 ≤ 7 * μ.1 16 + 2 + 4
    omega
  · rw [gup_0.2.2.2.1, gup_0.2.2.2.1]
    show μ.1 19 ≤ μ.1 16 + g 3 m
    omega
  · have ha := ((hA.1.2.2.1 _ k6.1 k6.2.1).2.2.2.1 k6.2.2.1).1.1
    unfold Mc
    rw [hh_mv hc, hh_op (p := p) (by rw [hpe, k1, hk]; omega), hp', hh_lo (by rw [ha]; decide), c3.1 25 (by simp), c3.1 27 (by simp), c3.1 22 (by simp)]
    omega
/-- a test -/
theorem st_te (hN : 1000 ≤ N) (h : rI σ μ en fin lv ow gw kw ia g r p) (ht : μ.2 18 r.toNat = 0) (hk : 3 ≤ μ.2 3 (μ.2 19 r.toNat).toNat) (hk2 : μ.2 3 (μ.2 19 r.toNat).toNat ≤ 11) (h18 : σ.2 1 p.toNat ≠ 18) : oCC N σ μ en fin lv ow gw kw ia r p ∨ oD N σ μ r p ∨ oE N σ μ en fin lv ow gw kw ia r p := by
  obtain ⟨hr, hp, h8, hR, hg, hC, hP, hT, hF⟩ := rBd h
  obtain ⟨m1, m2, m3, m4, m5, m6, m7⟩ := rNx h (by omega) (by omega)
  generalize hn : μ.2 19 r.toNat = n at hk hk2
  generalize hm : μ.2 20 r.toNat = m at m1 m2 m3 m4 m5 m6 m7
  obtain ⟨hpe, hnn, hx, hd, ⟨e1, e2, e3, e4⟩, hsl, hex, hen⟩ := nd h ht hn hm (by omega) h18
  obtain ⟨hA, b1, b2, b3, b4, b5, b6, b7, b8, b9⟩ := h
  obtain ⟨N1, N2, N3, N4, N5, N6, N7, N8⟩ := id hA.2.2.2.1
  have hpx : pex μ en n = en n := by unfold pex; rw [if_neg (by omega)]
  rw [hpx, ← hpe] at hx
  obtain ⟨T1, T2, T3, T4, T5, T6, T7, T8, T9⟩ := id hA.2.1
  have hnode := hA.1.2.2.1 n hnn.1 hnn.2
  have hcnt := hA.1.1
  by_cases hfu : μ.1 16 = μ.1 17
  · right; left
    have ht2 := ztest (N := N) (n := n) hN hA.2.1 (by rw [T2]; exact b3) hnode.2.2.1 hA.1.2.2.2.1 hcnt.2.2.2.2.2.2 (fun e => by have := hA.1.2.2.2.2.1 n hnn.1 hnn.2 e; have := hcnt.2.2.2.1; omega) hnn.1 (by omega) (by omega) (by omega) hk hk2
    obtain ⟨b, w, q1, q2, q3, q4, q5, q6⟩ := ht2
    rw [← hpe] at q4 q5
    refine ⟨1, σ, μ, by omega, zCs_of (zP_no hp.1 hp.2 (by omega) (by omega) (by omega)) hp.1 (by decide), zMo_of ?_ hr.1 hR.2 (by omega), zfr_rf, zfr_rf, N1, hA.2.2.1.2.2.1, rfl⟩
    rw [zQ_0 hr.1 hR.2 ht, hn, hm, zD_3 hnn.1 (by omega) hk hk2, zspend_no hfu]
    rfl
  · have s1 := rAll_st (k := μ.1 16 + 1) hA hr (by omega) (by omega)
    have hcut : cutC (zF σ 27 (μ.1 16 + 1)) = cutC σ := cutC_fr (zfr_F (ks := [27]) (js := []) zfr_rf (by simp)) (by simp) (by simp)
    have ht2 := ztest (N := N) (σ := zF σ 27 (μ.1 16 + 1)) (μ := zF μ 16 (μ.1 16 + 1)) (en := en) (n := n) hN s1.2.1 (by show zGR (σ.2 18) (μ.2 17) (σ.1 26); rw [T2]; exact b3) hnode.2.2.1 hA.1.2.2.2.1 hcnt.2.2.2.2.2.2 (fun e => by have := hA.1.2.2.2.2.1 n hnn.1 hnn.2 e; have := hcnt.2.2.2.1; show μ.2 4 n.toNat ≤ 20; omega) hnn.1 (by omega) (by omega) (by omega) hk hk2
    obtain ⟨b, w, q1, q2, q3, q4, q5, q6, q7⟩ := ht2
    rw [← hpe] at q4 q5 q6 q7
    change 1 ≤ σ.2 1 p.toNat at q4
    change σ.2 1 p.toNat ≤ 10 at q5
    change w ≤ σ.1 26 at q3
    change σ.1 24 ≤ w at q2
    have hs27 : σ.1 27 + 1 = μ.1 16 + 1 := by omega
    have hcl : zMachine_perform N p σ = some (if zb b = 0 then -2 else σ.2 2 p.toNat, zF (zF σ 27 (μ.1 16 + 1)) 24 w) := by
      by_cases e5 : σ.2 1 p.toNat ≤ 5
      · have q6' := q6 e5
        change zMachine_takesUnit N (σ.2 1 p.toNat) (σ.2 3 p.toNat) p (zF σ 27 (μ.1 16 + 1)) = _ at q6'
        rw [zP_unit hp.1 hp.2 q4 e5 (by omega) hF.1 hF.2.1, hs27, q6']
        simp only [Option.bind_some]
        split <;> rfl
      · have q7' := q7 (by show 5 < σ.2 1 p.toNat; omega)
        change zMachine_passes N (σ.2 1 p.toNat) (σ.2 3 p.toNat) (zF σ 27 (μ.1 16 + 1)) = _ at q7'
        rw [zP_pass hp.1 hp.2 (by omega) q5 (by omega) hF.1 hF.2.1, hs27, q7']
        simp only [Option.bind_some]
        split <;> rfl
    have hml : zMod_perform N r μ = some (if zb b = 0 then -1 else m, zF (zF μ 16 (μ.1 16 + 1)) 11 w) := by
      rw [zQ_0 hr.1 hR.2 ht, hn, hm, zD_3 hnn.1 (by omega) hk hk2, zspend hfu N2 (by omega)]
      simp only [Option.bind_some, Int.reduceEq, if_false]
      rw [q1]
      simp only [Option.bind_some]
      split <;> rfl
    have hfc : fC σ (zF (zF σ 27 (μ.1 16 + 1)) 24 w) := zfr_F fC_27 (by simp)
    have hfm : fM μ (zF (zF μ 16 (μ.1 16 + 1)) 11 w) := zfr_F fM_16 (by simp)
    have hcc : cutC (zF (zF σ 27 (μ.1 16 + 1)) 24 w) = cutC σ := cutC_fr hfc (by simp) (by simp)
    have hcm : cutM (zF (zF μ 16 (μ.1 16 + 1)) 11 w) = cutM μ := cutM_fr hfm (by simp) (by simp)
    have u1 := rAll_num (k := μ.1 16 + 1) (w := w) m1 m2 (by omega) (by omega) (by omega) (by omega)
    have u3 : rLks (zF (zF σ 27 (μ.1 16 + 1)) 24 w) (zF (zF μ 16 (μ.1 16 + 1)) 11 w) en m := rLks_fr hcc hcm rfl rfl (fun _ _ _ => rfl) rfl m3
    by_cases hb : zb b = 0
    · right; right
      rw [if_pos hb] at hcl hml
      refine ⟨_, _, m, g, zCf_of hcl hp.1, zMf_of hml hr.1 hR.2 (by omega), ⟨u1, m2, u3, ?_, ?_, ?_⟩, hfc, hfm, ?_⟩
      · show μ.1 18 ≤ 7 * (μ.1 16 + 1) + 2; omega
      · show σ.1 23 ≤ 40100; omega
      · show μ.1 19 ≤ 10100; omega
      · unfold Mc
        rw [hh_lo (p := p) (by omega)]
        show 300 * (σ.1 25 - (μ.1 16 + 1)) + 60 * σ.1 22 + 85 < _
        omega
    · left
      rw [if_neg hb] at hcl hml
      have u4 : rLive (zF (zF σ 27 (μ.1 16 + 1)) 24 w) (zF (zF μ 16 (μ.1 16 + 1)) 11 w) en (σ.2 18) (μ.1 16 + 1) m := rLive_fr hcc hcm (fun _ _ _ => rfl) (by omega) m4
      have hxx : zpx (zF (zF σ 27 (μ.1 16 + 1)) 24 w) (σ.2 2 p.toNat) (g 0 m) := hx
      have hI : rI (zF (zF σ 27 (μ.1 16 + 1)) 24 w) (zF (zF μ 16 (μ.1 16 + 1)) 11 w) en fin lv ow gw kw ia g m (σ.2 2 p.toNat) := by
        refine ⟨u1, m2, hxx, b3, u4, u3, ?_, ?_, ?_, ?_⟩
        · show g 4 m ≤ w; omega
        · have h1 := rSl_0 (μ := zF (zF μ 16 (μ.1 16 + 1)) 11 w) (r := m) m6.2
          show σ.1 23 + 3 * g 2 m + zps (σ.2 18) 20 ≤ 4 * (μ.1 16 + 1) + _
          omega
        · have h1 := rEx_0 (μ := zF (zF μ 16 (μ.1 16 + 1)) 11 w) (r := m)
          show μ.1 18 ≤ 7 * (μ.1 16 + 1) + 2 + _
          omega
        · show μ.1 19 ≤ μ.1 16 + 1 + g 3 m; omega
      refine ⟨1, _, _, _, _, _, by omega, zCs_of hcl hp.1 (by have := (rBd hI).2.1; omega), zMs_of hml hr.1 hR.2 (by omega) m5.1, hI, hfc, hfm, ?_⟩
      have := (hh_bd σ lv ow (σ.2 2 p.toNat)).2
      unfold Mc
      rw [hh_mv hcc, hh_lo (p := p) (by omega)]
      show 300 * (σ.1 25 - (μ.1 16 + 1)) + 60 * σ.1 22 + _ < _
      omega
end OX
