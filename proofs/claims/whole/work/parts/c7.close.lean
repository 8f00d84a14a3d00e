/-! groups close; looks -/
section OY
variable {N : Nat} {σ σ' μ μ' : z_S} {en fin lv ow gw kw : Int → Int} {ia : Int → Prop} {g g' : Nat → Int → Int} {r r' m p q n : Int}
/-- a group closes -/
theorem st_cl (h : rI σ μ en fin lv ow gw kw ia g r p) (ht : μ.2 18 r.toNat = 3) (h18 : σ.2 1 p.toNat ≠ 18) : oCC N σ μ en fin lv ow gw kw ia r p := by
  obtain ⟨hr, hp, h8, hR, hg, hC, hP, hT, hF⟩ := rBd h
  obtain ⟨m1, m2, m3, m4, m5, m6, m7⟩ := rNx h (by omega) (by omega)
  obtain ⟨hA, b1, b2, b3, b4, b5, b6, b7, b8, b9⟩ := h
  have hq := hA.2.2.2.2.1 r hr.1 hr.2.1
  obtain ⟨a1, a2, a3, a4, a5, a6, a7, a8, a9, a10, -⟩ := hq
  obtain ⟨n0, n1⟩ := a5 (by omega) (by omega) (by omega)
  obtain ⟨hk, g0, hx, d1, d2, d3, d4, d5, d6⟩ := a10 ht
  have hdy := (b4 0).1 ht
  change σ.2 18 (42 + μ.2 4 (μ.2 19 r.toNat).toNat).toNat = μ.2 21 r.toNat at hdy
  generalize hn : μ.2 19 r.toNat = n at *
  generalize hm : μ.2 20 r.toNat = m at *
  generalize hxx : μ.2 21 r.toNat = x at *
  dsimp only at g0 hx d1 d2 d3 d4 d5 d6
  obtain ⟨k1, k2, k3, k4, k5, k6, k7, k8, k9⟩ := (hA.1.2.2.1 n n0 n1).2.2.2.2.2.1 (by omega) (by omega)
  obtain ⟨j1, j2, j3, j4⟩ := k8 hk
  have hen := (hA.1.2.2.1 n n0 n1).2.1 (by omega)
  have hpe : p = en n + 1 := by rw [← g0]; exact zpx_no b2 h18
  rw [← hpe] at hx
  obtain ⟨T1, T2, T3, T4, T5, T6, T7, T8, T9⟩ := id hA.2.1
  have hx0 : 0 ≤ x := by omega
  have hxa : x ≤ μ.1 11 := by omega
  have hk16 : σ.2 1 p.toNat = 16 := by rw [hpe, k2, hk]; decide
  have hf3 : σ.2 3 p.toNat = μ.2 4 n.toNat := by rw [hpe, k4]; exact j1
  generalize ha : μ.2 4 n.toNat = a at *
  obtain ⟨τ, c1, c2, c3, c4, c5, c6, c7⟩ := zcell_e (N := N) (σ := σ) (c := a) (v := x) hA.2.2.1 (by omega) (by omega) (by omega) (by omega) (by omega)
  obtain ⟨s1, hc⟩ := rAll_set m1 m2 c2 c3 c5
  have ht1 : τ.1 23 ≤ σ.1 23 + 1 := by split at c7 <;> omega
  obtain ⟨υ, e1, e2, e3, e4, e5, e6, e7⟩ := zcell_e (N := N) (σ := τ) (c := 21 + a) (v := σ.1 24) c2 (by omega) (by omega) (by omega) (by omega) (by omega)
  obtain ⟨s2, hc2⟩ := rAll_set s1 m2 e2 e3 e5
  have ht2 : υ.1 23 ≤ τ.1 23 + 1 := by split at e7 <;> omega
  have hcu : cutC υ = cutC σ := hc2.trans hc
  have h24 : τ.1 24 = σ.1 24 := c3.1 24 (by simp)
  have hcl : zMachine_perform N p σ = some (σ.2 2 p.toNat, υ) := by
    rw [zP_16 hp.1 hp.2 hk16 (by omega) (by omega), hf3, hdy, c1]
    simp only [Option.bind_some]
    rw [h24, e1]
    rfl
  have hml := zQ_3 (N := N) hr.1 hR.2 ht (by rw [hn]; exact n0) (by rw [hn]; omega) (by rw [hn, ha]; omega) (by rw [hn, ha]; omega)
  rw [hn, ha, hm, hxx] at hml
  have hfm : zfr [] [17] μ (zA (zA μ 17 (2 * a).toNat x) 17 (2 * a + 1).toNat (μ.1 11)) := zfr_A (zfr_A zfr_rf (by simp)) (by simp)
  have s3 := rAll_gr s2 m2 hfm
  have hcm : cutM (zA (zA μ 17 (2 * a).toNat x) 17 (2 * a + 1).toNat (μ.1 11)) = cutM μ := cutM_fr hfm (by simp) (by simp)
  have hfc : fC σ υ := zfr_tr (zfr_up c3 (by simp) (by simp)) (zfr_up e3 (by simp) (by simp))
  have hcell : υ.2 18 = zupd (zupd (σ.2 18) a.toNat x) (21 + a).toNat (σ.1 24) := by rw [e4, c4]
  have hlive : rLive υ (zA (zA μ 17 (2 * a).toNat x) 17 (2 * a + 1).toNat (μ.1 11)) en (υ.2 18) (μ.1 16) m := by
    rw [hcell]
    exact rLive_fr hcu hcm (fun j j1 j2 => hfm.2 j (by simp; omega)) (Int.le_refl _) (rLive_low hA.1 hA.2.2.2.2.1 m2 (by omega) (rLive_low hA.1 hA.2.2.2.2.1 m2 (by omega) m4))
  have hlks : rLks υ (zA (zA μ 17 (2 * a).toNat x) 17 (2 * a + 1).toNat (μ.1 11)) en m := rLks_fr hcu hcm (by rw [e3.2 23 (by simp), c3.2 23 (by simp)]) (by rw [e3.2 24 (by simp), c3.2 24 (by simp)]) (fun j j1 j2 => hfm.2 j (by simp; omega)) rfl m3
  have hzp : zpx υ (σ.2 2 p.toNat) (g 0 m) := by
    unfold zpx at hx ⊢
    rw [e3.2 1 (by simp), e3.2 2 (by simp), e3.1 4 (by simp), c3.2 1 (by simp), c3.2 2 (by simp), c3.1 4 (by simp)]; exact hx
  have hI : rI υ (zA (zA μ 17 (2 * a).toNat x) 17 (2 * a + 1).toNat (μ.1 11)) en fin lv ow gw kw ia g m (σ.2 2 p.toNat) := by
    refine ⟨s3, m2, hzp, ?_, hlive, hlks, ?_, ?_, ?_, ?_⟩
    · show zGR (υ.2 18) (zupd (zupd (μ.2 17) (2 * a).toNat x) (2 * a + 1).toNat (μ.1 11)) (μ.1 7)
      rw [hcell]
      intro k hk2
      by_cases e : k = a.toNat
      · subst e
        rw [zupd_n (show a.toNat ≠ (21 + a).toNat by omega), zupd_s, show 21 + a.toNat = (21 + a).toNat by omega, zupd_s, show 2 * a.toNat = (2 * a).toNat by omega, zupd_n (show (2 * a).toNat ≠ (2 * a + 1).toNat by omega), zupd_s, show (2 * a).toNat + 1 = (2 * a + 1).toNat by omega, zupd_s]
        exact ⟨rfl, fun _ => ⟨by omega, by omega, by omega⟩, fun z => by omega⟩
      · rw [zupd_n (show k ≠ (21 + a).toNat by omega), zupd_n (show k ≠ a.toNat by omega), zupd_n (show 21 + k ≠ (21 + a).toNat by omega), zupd_n (show 21 + k ≠ a.toNat by omega), zupd_n (show 2 * k ≠ (2 * a + 1).toNat by omega), zupd_n (show 2 * k ≠ (2 * a).toNat by omega), zupd_n (show 2 * k + 1 ≠ (2 * a + 1).toNat by omega), zupd_n (show 2 * k + 1 ≠ (2 * a).toNat by omega)]
        exact b3 k hk2
    · show g 4 m ≤ μ.1 11; omega
    · have h0 := rSl_t (μ := μ) (r := r) (by omega) (by omega) (by omega)
      have h1 := rSl_0 (μ := zA (zA μ 17 (2 * a).toNat x) 17 (2 * a + 1).toNat (μ.1 11)) (r := m) m6.2
      have h2 : zps (υ.2 18) 20 = zps (σ.2 18) 20 + 1 - (if 0 ≤ σ.2 18 a.toNat then 1 else 0) := by
        rw [hcell, zps_hi (by omega), zps_lo (by omega) (by omega), if_pos hx0]
      show υ.1 23 + 3 * g 2 m + zps (υ.2 18) 20 ≤ 4 * μ.1 16 + _
      split at h2 <;> omega
    · have h0 : rEx μ r = 0 := by unfold rEx; rw [if_neg (by omega), if_neg (by omega)]
      have h1 := rEx_0 (μ := zA (zA μ 17 (2 * a).toNat x) 17 (2 * a + 1).toNat (μ.1 11)) (r := m)
      show μ.1 18 ≤ 7 * μ.1 16 + 2 + _
      omega
    · show μ.1 19 ≤ μ.1 16 + g 3 m; omega
  refine ⟨1, _, _, _, _, _, by omega, zCs_of hcl hp.1 (by have := (rBd hI).2.1; omega), zMs_of hml hr.1 hR.2 (by omega) m5.1, hI, hfc, zfr_up hfm (by simp) (by simp), ?_⟩
  have hlt := hA.1.2.2.2.2.2.2.1 n n0 n1 (by omega) (by omega)
  have := (hh_end hA.1.2.2.2.2.2 hp.1 (by omega) (Or.inl hk16)).1
  unfold Mc
  rw [hh_mv hcu, e3.1 25 (by simp), e3.1 27 (by simp), e3.1 22 (by simp), c3.1 25 (by simp), c3.1 27 (by simp), c3.1 22 (by simp)]
  omega
/-- the row of a look's end -/
theorem rAd7 (hA : rAll σ μ en fin lv ow gw kw ia g m) (hm : rV μ m) (hl : rLks σ μ en m) {n x y z a0 a1 a2 a3 a4 : Int}
    (hnew : rOKd σ μ en fin lv ia (μ.1 7) 7 n m x (μ.2 18 m.toNat) (μ.1 18) (fun j => if j = 0 then a0 else if j = 1 then a1 else if j = 2 then a2 else if j = 3 then a3 else a4) (fun j => g j m))
    {c : Nat → Int} {T : Int} (hli : rLive σ μ en c T m) (hk : 1 ≤ y ∧ y ≤ μ.1 19 ∧ μ.2 24 (y - 1).toNat = m ∧ μ.2 26 (y - 1).toNat = μ.2 3 n.toNat - 13 ∧ σ.2 23 (σ.2 3 (en n).toNat).toNat = (zci (μ.2 26) (y - 1).toNat : Nat) ∧ σ.2 24 (σ.2 3 (en n).toNat).toNat = x) :
    rAll σ (zrow μ 7 n m x y z) en fin lv ow gw kw ia (gup g (μ.1 18) a0 a1 a2 a3 a4) (μ.1 18) ∧ rV (zrow μ 7 n m x y z) (μ.1 18) ∧ rLks σ (zrow μ 7 n m x y z) en (μ.1 18) ∧ rLive σ (zrow μ 7 n m x y z) en c T (μ.1 18) := by
  have hp : 0 ≤ μ.1 18 := by have := hA.2.2.2.1.2.2.2.2.2.2.1; omega
  have ho : oAg (μ.1 18) μ (zrow μ 7 n m x y z) := zrow_ag hp
  obtain ⟨z0, z18, z19, z20, z21, z22, z23⟩ := zrow_n (μ := μ) (t := 7) (n := n) (m := m) (x := x) (y := y) (z := z)
  have hA5 := hA.2.2.2.2.1
  have hs : rSub (zrow μ 7 n m x y z) m (μ.1 18) := by
    have := rSub_next (μ := zrow μ 7 n m x y z) (r := μ.1 18)
    rw [z20] at this
    exact this
  refine ⟨rAll_row (rAll_add hA hm 7 n m x y z a0 a1 a2 a3 a4 hm.1 hm.2.1 hnew) hs, ⟨hp, by rw [z0]; omega, by rw [z18]; decide⟩, ?_, ?_⟩
  · refine rLks_cons (fun _ => ?_) ?_
    · rw [z19, z20, z21, z22]
      exact hk
    · rw [z20]
      exact rLks_ag rfl zrow_cut ho hA5 hm (fun k h => by have := (hl k h).2.1; exact this) (fun i _ _ => ⟨rfl, rfl⟩) (fun k _ => ⟨rfl, rfl⟩) hl
  · refine rLive_cons ?_ ?_
    · unfold rDyn
      rw [z18]
      exact dy_0 (by decide) (by decide) (by decide)
    · rw [z20]
      exact rLive_ag rfl zrow_cut ho hA5 hm (Int.le_refl _) hli
theorem zlook_e {k l : Int} (hl0 : 0 ≤ l) (hl1 : l < 50) (hp0 : 0 ≤ p) (hp1 : p + 1 < 602) (hc0 : 0 ≤ σ.1 22) (hc1 : σ.1 22 < 10100) : zMachine_beginLook N k l p σ = some (0, if k = 21 then zch (zA (zA σ 23 l.toNat (σ.1 22)) 24 l.toNat (σ.1 24)) (σ.2 2 (p + 1).toNat) else zA (zA σ 23 l.toNat (σ.1 22)) 24 l.toNat (σ.1 24)) := by
  rw [zMachine_beginLook_u, zrw (by decide) hl0 (by show l < (50 : Int); omega)]
  simp only [Option.bind_some]
  rw [zrw (by decide) hl0 (by show l < (50 : Int); omega)]
  simp only [Option.bind_some]
  by_cases e : k = 21
  · rw [if_pos e, if_pos e, if_pos (show zin (p + 1) from ⟨by omega, by omega⟩), zrr (by decide) (by omega) (by show p + 1 < (602 : Int); omega)]
    simp only [Option.bind_some]
    exact congrArg (fun z : Option (Int × z_S) => z.bind fun q => some (0, q.2)) (zch_e (N := N) (p := σ.2 2 (p + 1).toNat) (σ := zA (zA σ 23 l.toNat (σ.1 22)) 24 l.toNat (σ.1 24)) hc0 hc1)
  · rw [if_neg e, if_neg e]; rfl
/-- a look begins -/
theorem st_lo (hN : 43 ≤ N) (h : rI σ μ en fin lv ow gw kw ia g r p) (ht : μ.2 18 r.toNat = 0) (hk : μ.2 3 (μ.2 19 r.toNat).toNat = 14 ∨ μ.2 3 (μ.2 19 r.toNat).toNat = 15) (h18 : σ.2 1 p.toNat ≠ 18) : oCC N σ μ en fin lv ow gw kw ia r p := by
  obtain ⟨hr, hp, h8, hR, hg, hC, hP, hT, hF⟩ := rBd h
  obtain ⟨m1, m2, m3, m4, m5, m6, m7⟩ := rNx h (by omega) (by omega)
  generalize hn : μ.2 19 r.toNat = n at hk
  generalize hm : μ.2 20 r.toNat = m at m1 m2 m3 m4 m5 m6 m7
  obtain ⟨hpe, hnn, hx, hd, ⟨e1, e2, e3, e4⟩, hsl, hex, hen⟩ := nd h ht hn hm (by omega) h18
  obtain ⟨hA, b1, b2, b3, b4, b5, b6, b7, b8, b9⟩ := h
  obtain ⟨k1, k2, k3, k4, k5, k6, k7, k8, k9⟩ := (hA.1.2.2.1 n hnn.1 hnn.2).2.2.2.2.2.1 (by omega) (by omega)
  obtain ⟨j1, j2, j3⟩ := k9 (by omega)
  have hR0 : 0 ≤ μ.1 18 := by have := hr.1; have := hr.2.1; omega
  have hpx : pex μ en n = en n + 1 := by unfold pex; rw [if_pos ⟨by omega, by omega⟩]
  rw [hpx] at hx
  obtain ⟨T1, T2, T3, T4, T5, T6, T7, T8, T9⟩ := id hA.2.1
  obtain ⟨N1, N2, N3, N4, N5, N6, N7, N8⟩ := id hA.2.2.2.1
  have hd' : g 1 m < 2 * lv n + 1 := by unfold rDp at hd; rw [if_neg (by omega)] at hd; exact hd
  generalize hll : σ.2 3 (en n).toNat = l at *
  -- the class writes down where it looks from
  have hfc : zfr [] [23, 24] σ (zA (zA σ 23 l.toNat (σ.1 22)) 24 l.toNat (σ.1 24)) := zfr_A (zfr_A zfr_rf (by simp)) (by simp)
  generalize hτ : zA (zA σ 23 l.toNat (σ.1 22)) 24 l.toNat (σ.1 24) = τ at *
  have t23 : τ.2 23 = zupd (σ.2 23) l.toNat (σ.1 22) := by rw [← hτ]; rfl
  have t24 : τ.2 24 = zupd (σ.2 24) l.toNat (σ.1 24) := by rw [← hτ]; rfl
  have hc : cutC τ = cutC σ := cutC_fr hfc (by simp) (by simp)
  have hCI : zCI τ := by
    have := hA.2.2.1
    unfold zCI at this ⊢
    rw [hfc.1 22 (by simp), hfc.1 23 (by simp), hfc.2 18 (by simp), hfc.2 22 (by simp), hfc.2 21 (by simp)]
    exact this
  have s1 : rAll τ μ en fin lv ow gw kw ia g m := by
    refine rAll_gen m1 m2 hc rfl (fun _ _ _ _ _ => rfl) (fun _ _ _ _ => rfl) (Int.le_refl _) (Int.le_refl _) rfl rfl (fun _ _ _ => rfl) ⟨hfc.2 19 (by simp), hfc.2 20 (by simp), hfc.2 21 (by simp)⟩ (fun t _ _ => ?_) (fun q q0 q1 => by omega) ?_ hCI ?_ (fun i hi => (rAll_top m1 hi).1)
    · unfold zcat
      rw [hfc.1 23 (by simp), hfc.2 18 (by simp), hfc.2 22 (by simp)]
    · have h := hA.2.1
      unfold zTx at h ⊢
      rw [hfc.1 24 (by simp), hfc.1 26 (by simp), hfc.1 9 (by simp), hfc.1 10 (by simp), hfc.2 17 (by simp)]
      exact h
    · have h := hA.2.2.2.1
      unfold rNum at h ⊢
      rw [hfc.1 27 (by simp), hfc.1 25 (by simp), hfc.1 22 (by simp)]
      exact h
  have s3 : rLks τ μ en m := by
    refine rLks_ag hc rfl (fun _ _ _ _ _ => rfl) hA.2.2.2.2.1 m2 (fun k hk7 => (m3 k hk7).2.1) (fun i _ _ => ⟨rfl, rfl⟩) (fun k hk7 => ?_) m3
    obtain ⟨z1, z2, z3⟩ := zit_ne hA.2.2.2.2.1 m2 hd k (Or.inr (Or.inr hk7))
    have hv := (zit_V hA.2.2.2.2.1 k m m2).1
    have hq := hA.2.2.2.2.1 _ hv.1 hv.2.1
    have hkk := (hq.2.2.2.2.2.2.2.2.2.2.2.2 hk7).1
    have hpp := ((hA.1.2.2.1 _ z1 z2).2.2.2.2.2.1 (by omega) (by omega)).2.2.2.2.2.2.2.2 (by omega)
    have hne : σ.2 3 (en (μ.2 19 (zit (μ.2 20) k m).toNat)).toNat ≠ l := fun e => z3 (by rw [← hpp.2.2, e]; exact j3)
    rw [t23, t24, zupd_n (by omega), zupd_n (by omega)]
    exact ⟨rfl, rfl⟩
  have s4 : rLive τ μ en (σ.2 18) (μ.1 16) m := rLive_fr hc rfl (fun _ _ _ => rfl) (Int.le_refl _) m4
  have hzpx : ∀ a b, zpx σ a b → zpx τ a b := fun a b h => by unfold zpx at h ⊢; rw [hfc.2 1 (by simp), hfc.2 2 (by simp), hfc.1 4 (by simp)]; exact h
  -- the pile
  generalize hl : μ.2 3 n.toNat - 13 = lk at *
  have hcase : ∃ τ', (lk = 1 → τ' = τ) ∧ (lk ≠ 1 → τ' = zch τ (σ.2 2 (en n + 1).toNat)) ∧ zMachine_perform N p σ = some (σ.2 2 p.toNat, τ') := by
    have hk19 : σ.2 1 p.toNat = 19 ∨ σ.2 1 p.toNat = 21 := by rw [hpe, k1]; omega
    have hbl := zlook_e (N := N) (σ := σ) (k := σ.2 1 p.toNat) (l := l) (p := p) j1 j2 hp.1 (by omega) hC.1 (by omega)
    rw [hτ] at hbl
    have hf3 : σ.2 3 p.toNat = l := by rw [hpe]; exact hll
    by_cases e : lk = 1
    · refine ⟨τ, fun _ => rfl, fun z => absurd e z, ?_⟩
      rw [zP_19 hp.1 hp.2 hk19, hf3, hbl, if_neg (by rw [hpe, k1]; omega)]
      rfl
    · refine ⟨zch τ (σ.2 2 (en n + 1).toNat), fun z => absurd z e, fun _ => rfl, ?_⟩
      rw [zP_19 hp.1 hp.2 hk19, hf3, hbl, if_pos (by rw [hpe, k1]; omega), hpe]
      rfl
  obtain ⟨τ', u1, u2, hcl⟩ := hcase
  obtain ⟨y1, y2, y3, y4⟩ := rPu (σ' := τ') (q := m) (m := m) (l := lk) (p := σ.2 2 (en n + 1).toNat) s1 m2 s3 (by omega) (by omega) m2 rSub_rf s3 s4 (by omega) u1 (fun e => ⟨u2 e, hzpx _ _ hx, by omega, by rw [hfc.2 18 (by simp)]; exact b3, by rw [hfc.2 18 (by simp)]; exact s4, by
    rw [hfc.1 23 (by simp), hfc.2 18 (by simp), if_neg m6.2]; omega⟩)
  have hτ' : zfr [22] [19, 20, 21] τ τ' := by
    by_cases e : lk = 1
    · rw [u1 e]; exact zfr_rf
    · rw [u2 e]; exact zch_fr
  have h22 : τ'.1 22 ≤ σ.1 22 + (if lk = 1 then 0 else 1) := by
    by_cases e : lk = 1
    · rw [u1 e, if_pos e, hfc.1 22 (by simp)]; omega
    · rw [u2 e, if_neg e]
      show τ.1 22 + 1 ≤ _
      rw [hfc.1 22 (by simp)]; omega
  have hc' : cutC τ' = cutC σ := (cutC_fr hτ' (by simp) (by simp)).trans hc
  obtain ⟨p24, p25, p26, p19, po, pf⟩ := zpush_at (μ := μ) (q := m) (w := μ.1 11) (l := lk)
  have hcm : cutM (zpush μ m (μ.1 11) lk) = cutM μ := cutM_fr zpush_fr (by simp) (by simp)
  generalize hμp : zpush μ m (μ.1 11) lk = π at *
  have π18 : π.1 18 = μ.1 18 := pf 18 (by decide)
  have π7 : π.1 7 = μ.1 7 := pf 7 (by decide)
  have π11 : π.1 11 = μ.1 11 := pf 11 (by decide)
  have π8 : π.1 8 = μ.1 8 := pf 8 (by decide)
  have π16 : π.1 16 = μ.1 16 := pf 16 (by decide)
  have π3 : π.2 3 = μ.2 3 := po 3 (by decide) (by decide) (by decide) (by decide)
  have π4 : π.2 7 = μ.2 7 := po 7 (by decide) (by decide) (by decide) (by decide)
  have π18' : π.2 18 = μ.2 18 := po 18 (by decide) (by decide) (by decide) (by decide)
  have τ3 : τ'.2 3 = σ.2 3 := by rw [hτ'.2 3 (by simp), hfc.2 3 (by simp)]
  have τ2 : τ'.2 2 = σ.2 2 := by rw [hτ'.2 2 (by simp), hfc.2 2 (by simp)]
  have hzpx' : ∀ a b, zpx σ a b → zpx τ' a b := fun a b h => by
    have h := hzpx a b h
    unfold zpx at h ⊢; rw [hτ'.2 1 (by simp), hτ'.2 2 (by simp), hτ'.1 4 (by simp)]; exact h
  obtain ⟨x1, x2, x3, x4⟩ := rAd7 (n := n) (x := μ.1 11) (y := π.1 19) (z := 0) y1 y2 y3 (mk_t7 m7 ⟨m5.1, by rw [π18]; have := hr.2.1; omega⟩ (by rw [π18']; exact m6) ⟨hnn.1, by rw [π8]; exact hnn.2⟩ (by rw [π3]; exact hk) (by rw [τ2]; exact hzpx' _ _ hx) hd' (by show g 4 m ≤ μ.1 11; omega) (by rw [π7]; omega)) y4 (by
    rw [p19, show (μ.1 19 + 1 - 1).toNat = (μ.1 19).toNat by omega, p24, p26, zupd_s, zupd_s, π3, τ3, hll, hτ'.2 23 (by simp), hτ'.2 24 (by simp), t23, t24, zupd_s, zupd_s]
    refine ⟨by omega, by omega, rfl, hl.symm, ?_, T1⟩
    rw [N8]
    congr 1
    exact zci_eq fun i hi => by rw [zupd_n (by omega)])
  obtain ⟨z0, z18, z19, z20, -, -, -⟩ := zrow_n (μ := π) (t := 7) (n := n) (m := m) (x := μ.1 11) (y := π.1 19) (z := 0)
  have f7 : (zrow π 7 n m (μ.1 11) (π.1 19) 0).2 7 = μ.2 7 := π4
  have f3 : (zrow π 7 n m (μ.1 11) (π.1 19) 0).2 3 = μ.2 3 := π3
  have f8 : (zrow π 7 n m (μ.1 11) (π.1 19) 0).1 8 = μ.1 8 := π8
  obtain ⟨v1, v2, v3, v4⟩ := rAdc (t := 0) (n := μ.2 7 n.toNat) (x := 0) (y := 0) (z := 0) x1 x2 x3 (by decide) (by decide) (a0 := en ((zrow π 7 n m (μ.1 11) (π.1 19) 0).2 7 (μ.2 7 n.toNat).toNat)) (mk_t0c (bOK_of x1 x2) ⟨by rw [π18]; exact hR0, by rw [z0]; omega⟩ (by rw [z18]; exact ⟨by decide, by decide⟩) ⟨k5.1, by rw [f8]; exact k5.2.1⟩ (by rw [f3]; exact k5.2.2) (by rw [f7, f8, f3]; exact ⟨k6.1, k6.2.1, k6.2.2.1⟩) (by
      rw [gup_0.1, f7, k6.2.2.2.1]; exact zpx_rf) (by
      rw [gup_0.2.1, f7]
      show 2 * lv n + 1 < 2 * lv (μ.2 7 (μ.2 7 n.toNat).toNat)
      omega)) (dy_0 (by decide) (by decide) (by decide)) x4
  rw [f7] at v1
  rw [z0, π18] at v1 v2 v3 v4
  obtain ⟨w0, w18, w19, w20, -, -, -⟩ := zrow_n (μ := zrow π 7 n m (μ.1 11) (π.1 19) 0) (t := 0) (n := μ.2 7 n.toNat) (m := μ.1 18) (x := 0) (y := 0) (z := 0)
  rw [z0, π18] at w0 w18 w19 w20
  have hml : zMod_perform N r μ = some (μ.1 18 + 1, zrow (zrow π 7 n m (μ.1 11) (π.1 19) 0) 0 (μ.2 7 n.toNat) (μ.1 18) 0 0 0) := by
    rw [zQ_0 hr.1 hR.2 ht, hn, hm, zD_14 hnn.1 (by omega) hk, hl, zpush_e hN N6 (by omega), hμp]
    simp only [Option.bind_some]
    rw [π11, π4, zrow_e (by rw [π18]; omega) (by rw [π18]; omega)]
    simp only [Option.bind_some]
    rw [zrow_e (by rw [z0, π18]; omega) (by rw [z0, π18]; omega), z0, π18]
  have hp' : σ.2 2 p.toNat = en (μ.2 7 (μ.2 7 n.toNat).toNat) := by rw [hpe]; exact k7
  have hpos := (hA.1.2.2.1 _ k6.1 k6.2.1).2.1 (by omega)
  have hcell : τ'.2 18 = σ.2 18 := by rw [hτ'.2 18 (by simp), hfc.2 18 (by simp)]
  refine ⟨1, _, _, _, _, _, by omega, zCs_of hcl hp.1 (by rw [hp']; omega), zMs_of hml hr.1 hR.2 (by omega) (by omega), ⟨v1, v2, ?_, ?_, ?_, v3, ?_, ?_, ?_, ?_⟩, zfr_tr (zfr_up hfc (by simp) (by simp)) (zfr_up hτ' (by simp) (by simp)), ?_, ?_⟩
  · rw [gup_0.1, hp']; exact zpx_rf
  · show zGR (τ'.2 18) (π.2 17) (π.1 7)
    rw [hcell, π7, po 17 (by decide) (by decide) (by decide) (by decide)]; exact b3
  · show rLive τ' _ en (τ'.2 18) (π.1 16) _
    rw [hcell, π16]; exact v4
  · rw [gup_0.2.2.2.2]
    show gup g (μ.1 18) _ _ _ _ _ 4 (μ.1 18) ≤ π.1 11
    rw [gup_0.2.2.2.2, π11]; show g 4 m ≤ μ.1 11; omega
  · rw [gup_0.2.2.1]
    show τ'.1 23 + 3 * gup g (μ.1 18) _ _ _ _ _ 2 (μ.1 18) + zps (τ'.2 18) 20 ≤ 4 * π.1 16 + _
    rw [gup_0.2.2.1, hcell, π16, hτ'.1 23 (by simp), hfc.1 23 (by simp)]
    have h1 := rSl_0 (μ := zrow (zrow π 7 n m (μ.1 11) (π.1 19) 0) 0 (μ.2 7 n.toNat) (μ.1 18) 0 0 0) (r := μ.1 18 + 1) (by rw [w18]; decide)
    show σ.1 23 + 3 * g 2 m + _ ≤ _
    omega
  · have h1 : rEx (zrow (zrow π 7 n m (μ.1 11) (π.1 19) 0) 0 (μ.2 7 n.toNat) (μ.1 18) 0 0 0) (μ.1 18 + 1) = 4 := by
      unfold rEx; rw [w18, if_pos rfl, w19]
      show (if π.2 3 (μ.2 7 n.toNat).toNat = 1 then 4 else 2) = _
      rw [π3]; exact if_pos k5.2.2
    rw [w0, h1]
    show _ ≤ 7 * π.1 16 + 2 + 4
    omega
  · rw [gup_0.2.2.2.1]
    show π.1 19 ≤ π.1 16 + gup g (μ.1 18) _ _ _ _ _ 3 (μ.1 18)
    rw [gup_0.2.2.2.1, π16, p19]
    show _ ≤ μ.1 16 + (g 3 m + 1)
    omega
  · exact zfr_tr (by rw [← hμp]; exact fM_push) (zfr_tr fM_row fM_row)
  · have ha := ((hA.1.2.2.1 _ k6.1 k6.2.1).2.2.2.1 k6.2.2.1).1.1
    unfold Mc
    rw [hh_mv hc', hh_op (p := p) (by rw [hpe, k1]; omega), hp', hh_lo (by rw [ha]; decide), hτ'.1 25 (by simp), hτ'.1 27 (by simp), hfc.1 25 (by simp), hfc.1 27 (by simp)]
    split at h22 <;> omega
/-- a look ends -/
theorem st_le (h : rI σ μ en fin lv ow gw kw ia g r p) (ht : μ.2 18 r.toNat = 7) (h18 : σ.2 1 p.toNat ≠ 18) : oCC N σ μ en fin lv ow gw kw ia r p ∨ oE N σ μ en fin lv ow gw kw ia r p := by
  obtain ⟨hr, hp, h8, hR, hg, hC, hP, hT, hF⟩ := rBd h
  obtain ⟨hA, b1, b2, b3, b4, b5, b6, b7, b8, b9⟩ := h
  have hq := hA.2.2.2.2.1 r hr.1 hr.2.1
  obtain ⟨v1, v2, v3, v4⟩ := rOK_next hq hr.1 hr.2.1 hr.2.2
  obtain ⟨a1, a2, a3, a4, a5, a6, a7, a8, a9, a10, a11, a12, a13⟩ := hq
  obtain ⟨n0, n1⟩ := a5 (by omega) (by omega) (by omega)
  obtain ⟨hk, g0, hx, d1, d2, d3, d4, d5, d6, d7, d8⟩ := a13 ht
  obtain ⟨l1, l2, l3, l4, l5, l6⟩ := b5 0 ht
  have m6 := a4 (by omega) (by omega)
  have m4 := rLive_next b4
  have m3 := rLks_next b5
  change 1 ≤ μ.2 22 r.toNat at l1
  change μ.2 22 r.toNat ≤ μ.1 19 at l2
  change μ.2 24 (μ.2 22 r.toNat - 1).toNat = μ.2 20 r.toNat at l3
  change σ.2 23 (σ.2 3 (en (μ.2 19 r.toNat)).toNat).toNat = (zci (μ.2 26) (μ.2 22 r.toNat - 1).toNat : Nat) at l5
  change σ.2 24 (σ.2 3 (en (μ.2 19 r.toNat)).toNat).toNat = μ.2 21 r.toNat at l6
  dsimp only at g0 hx d1 d2 d3 d4 d5 d6 d7 d8
  clear a2 a3 a4 a5 a6 a7 a8 a9 a10 a11 a12 a13 l4
  generalize hn : μ.2 19 r.toNat = n at *
  generalize hm : μ.2 20 r.toNat = m at *
  generalize hxx : μ.2 21 r.toNat = x at *
  generalize hy : μ.2 22 r.toNat = y at *
  obtain ⟨k1, k2, k3, k4, k5, k6, k7, k8, k9⟩ := (hA.1.2.2.1 n n0 n1).2.2.2.2.2.1 (by omega) (by omega)
  obtain ⟨j1, j2, j3⟩ := k9 (by omega)
  have hen := (hA.1.2.2.1 n n0 n1).2.1 (by omega)
  have hpe : p = en n + 1 := by rw [← g0]; exact zpx_no b2 h18
  have hlt := hA.1.2.2.2.2.2.2.1 n n0 n1 (by omega) (by omega)
  rw [← hpe] at hx
  obtain ⟨T1, T2, T3, T4, T5, T6, T7, T8, T9⟩ := id hA.2.1
  obtain ⟨N1, N2, N3, N4, N5, N6, N7, N8⟩ := id hA.2.2.2.1
  have hf3 : σ.2 3 p.toNat = σ.2 3 (en n).toNat := by rw [hpe]; exact k4
  obtain ⟨i1, i2, i3, i4, i5, i6, i7⟩ := hA.2.2.2.2.2 (y - 1).toNat (by omega)
  rw [l3] at i6
  have hz : zci (μ.2 26) (y - 1).toNat ≤ zci (μ.2 26) (μ.1 19).toNat := zci_mono _ (by omega)
  -- the state cut off, with the place w
  have main : ∀ w, 0 ≤ w → w ≤ μ.1 7 → rAll (zF (zF σ 22 (zci (μ.2 26) (y - 1).toNat : Nat)) 24 w) (zF (zF μ 19 (y - 1)) 11 w) en fin lv ow gw kw ia g m ∧ rLks (zF (zF σ 22 (zci (μ.2 26) (y - 1).toNat : Nat)) 24 w) (zF (zF μ 19 (y - 1)) 11 w) en m := by
    intro w w0 w1
    have hc : cutC (zF (zF σ 22 (zci (μ.2 26) (y - 1).toNat : Nat)) 24 w) = cutC σ := cutC_fr (zfr_F (zfr_F (ks := [22, 24]) (js := []) zfr_rf (by simp)) (by simp)) (by simp) (by simp)
    have hcm : cutM (zF (zF μ 19 (y - 1)) 11 w) = cutM μ := cutM_fr (zfr_F (zfr_F (ks := [11, 19]) (js := []) zfr_rf (by simp)) (by simp)) (by simp) (by simp)
    have hCI : zCI (zF (zF σ 22 (zci (μ.2 26) (y - 1).toNat : Nat)) 24 w) := by
      obtain ⟨c1, c2, c3, c4, c5, c6⟩ := hA.2.2.1
      refine ⟨?_, c2, c3, c4, fun c hc => c5 c ?_, fun c d h1 h2 => c6 c d h1 ?_⟩
      · show 0 ≤ ((zci (μ.2 26) (y - 1).toNat : Nat) : Int); omega
      · change (c : Int) < ((zci (μ.2 26) (y - 1).toNat : Nat) : Int) at hc; omega
      · change (d : Int) < ((zci (μ.2 26) (y - 1).toNat : Nat) : Int) at h2; omega
    refine ⟨rAll_cut (i := (y - 1).toNat) hA (by omega) hc hcm (fun _ _ _ => rfl) rfl rfl rfl rfl (by show y - 1 = _; omega) ⟨rfl, rfl, rfl⟩ rfl rfl rfl (fun _ _ _ => rfl) hCI ⟨rfl, T2, T3, T4, w0, by show w ≤ σ.1 26; omega, T7, T8, T9⟩ (fun j hj => ?_), ?_⟩
    · obtain ⟨f1, f2, f3, f4, f5, -⟩ := hA.2.2.2.2.2 j (by omega)
      rw [if_pos (by omega), show j + 1 = (y - 1).toNat from hj, l3] at f5
      exact f5
    · refine rLks_ag hc hcm (fun _ _ _ _ _ => rfl) hA.2.2.2.2.1 v1 (fun k hk7 => ?_) (fun i _ _ => ⟨rfl, rfl⟩) (fun k _ => ⟨rfl, rfl⟩) m3
      have := i6 k hk7
      show _ ≤ y - 1
      omega
  have hend : pEnd σ p := by unfold pEnd; rw [hpe, k2]; omega
  obtain ⟨he1, he2⟩ := hh_end hA.1.2.2.2.2.2 hp.1 (by omega) hend
  rcases hk with hk | hk
  · left
    obtain ⟨s1, s3⟩ := main x d7 d8
    have hcl : zMachine_perform N p σ = some (σ.2 2 p.toNat, zF (zF σ 22 (zci (μ.2 26) (y - 1).toNat : Nat)) 24 x) := by
      rw [zP_20 hp.1 hp.2 (by rw [hpe, k2, hk]; decide) (by omega) (by omega), hf3, l5, l6]
    have hml : zMod_perform N r μ = some (m, zF (zF μ 19 (y - 1)) 11 x) := by
      rw [zQ_7 hr.1 hR.2 ht, zMod_endLook_u, if_pos (show zIn r 90000 from ⟨hr.1, by omega⟩), hn, if_pos (show zIn n 1300 from ⟨n0, by omega⟩), if_neg (by omega), hy, if_pos (show zin (y - 1) from ⟨by omega, by omega⟩), if_pos (show zIn r 90000 from ⟨hr.1, by omega⟩)]
      show some (μ.2 20 r.toNat, zF (zF μ 19 (y - 1)) 11 (μ.2 21 r.toNat)) = _
      rw [hm, hxx]
    have hI : rI (zF (zF σ 22 (zci (μ.2 26) (y - 1).toNat : Nat)) 24 x) (zF (zF μ 19 (y - 1)) 11 x) en fin lv ow gw kw ia g m (σ.2 2 p.toNat) := by
      refine ⟨s1, v1, hx, b3, rLive_fr (cutC_fr (zfr_F (zfr_F (ks := [22, 24]) (js := []) zfr_rf (by simp)) (by simp)) (by simp) (by simp)) (cutM_fr (zfr_F (zfr_F (ks := [11, 19]) (js := []) zfr_rf (by simp)) (by simp)) (by simp) (by simp)) (fun _ _ _ => rfl) (Int.le_refl _) m4, s3, ?_, ?_, ?_, ?_⟩
      · show g 4 m ≤ x; omega
      · have h0 := rSl_t (μ := μ) (r := r) (by omega) (by omega) (by omega)
        have h1 := rSl_0 (μ := zF (zF μ 19 (y - 1)) 11 x) (r := m) m6.2
        show σ.1 23 + 3 * g 2 m + zps (σ.2 18) 20 ≤ 4 * μ.1 16 + _
        omega
      · have h0 : rEx μ r = 0 := by unfold rEx; rw [if_neg (by omega), if_neg (by omega)]
        have h1 := rEx_0 (μ := zF (zF μ 19 (y - 1)) 11 x) (r := m)
        show μ.1 18 ≤ 7 * μ.1 16 + 2 + _
        omega
      · show y - 1 ≤ μ.1 16 + g 3 m
        rw [l3] at i4
        omega
    refine ⟨1, _, _, _, _, _, by omega, zCs_of hcl hp.1 (by have := (rBd hI).2.1; omega), zMs_of hml hr.1 hR.2 (by omega) v1.1, hI, zfr_F (zfr_F zfr_rf (by simp)) (by simp), zfr_F (zfr_F zfr_rf (by simp)) (by simp), ?_⟩
    unfold Mc
    rw [hh_mv (cutC_fr (zfr_F (zfr_F (ks := [22, 24]) (js := []) zfr_rf (by simp)) (by simp)) (by simp) (by simp))]
    show 300 * (σ.1 25 - σ.1 27) + 60 * ((zci (μ.2 26) (y - 1).toNat : Nat) : Int) + _ < _
    omega
  · right
    obtain ⟨s1, s3⟩ := main (σ.1 24) T5 (by omega)
    rw [zF_i (σ := zF σ 22 (zci (μ.2 26) (y - 1).toNat : Nat)) (k := 24) (v := σ.1 24) rfl, zF_i (σ := zF μ 19 (y - 1)) (k := 11) T1.symm] at s1 s3
    have hcl : zMachine_perform N p σ = some (-2, zF σ 22 (zci (μ.2 26) (y - 1).toNat : Nat)) := by
      rw [zP_22 hp.1 hp.2 (by rw [hpe, k2, hk]; decide) (by omega) (by omega), hf3, l5]
    have hml : zMod_perform N r μ = some (-1, zF μ 19 (y - 1)) := by
      rw [zQ_7 hr.1 hR.2 ht, zMod_endLook_u, if_pos (show zIn r 90000 from ⟨hr.1, by omega⟩), hn, if_pos (show zIn n 1300 from ⟨n0, by omega⟩), if_pos hk, hy, if_pos (show zin (y - 1) from ⟨by omega, by omega⟩)]
    have h0 : rEx μ r = 0 := by unfold rEx; rw [if_neg (by omega), if_neg (by omega)]
    refine ⟨_, _, m, g, zCf_of hcl hp.1, zMf_of hml hr.1 hR.2 (by omega), ⟨s1, v1, s3, ?_, ?_, ?_⟩, zfr_F zfr_rf (by simp), zfr_F zfr_rf (by simp), ?_⟩
    · show μ.1 18 ≤ 7 * μ.1 16 + 2; omega
    · show σ.1 23 ≤ 40100; omega
    · show y - 1 ≤ 10100; omega
    · unfold Mc
      show 300 * (σ.1 25 - σ.1 27) + 60 * ((zci (μ.2 26) (y - 1).toNat : Nat) : Int) + 85 < _
      omega
end OY
