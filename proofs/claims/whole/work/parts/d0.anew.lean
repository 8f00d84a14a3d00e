/-! a round begins: its groups are forgotten -/
theorem zent_loop {N : Nat} {e : Int} (he : e ≤ 20) : ∀ (n : Nat) (j : Int) (τ : z_S), 1 ≤ j → e + 2 ≤ j + n → 1 ≤ n → zCI τ → τ.1 23 + zps (τ.2 18) 20 < 40100 →
    ∃ υ, zMachine_enterRepetition_l39 N n e j τ = some (0, υ) ∧ zCI υ ∧ zfr [23] [18, 22] τ υ ∧ (∀ i : Nat, υ.2 18 i = if j ≤ (i : Int) ∧ (i : Int) ≤ e then -1 else τ.2 18 i) ∧ (∀ t, 0 ≤ t → t ≤ τ.1 23 → zcat υ t = zcat τ t) ∧ τ.1 23 ≤ υ.1 23 ∧ υ.1 23 + zps (υ.2 18) 20 ≤ τ.1 23 + zps (τ.2 18) 20 := by
  intro n
  induction n with
  | zero => intro j τ h1 h2 h3; omega
  | succ n ih =>
    intro j τ hj hn _ hI hT
    rw [zMachine_enterRepetition_l39_s]
    by_cases c : e < j
    · rw [if_pos c]
      exact ⟨τ, rfl, hI, zfr_rf, fun i => by rw [if_neg (by omega)], fun _ _ _ => rfl, Int.le_refl _, Int.le_refl _⟩
    · rw [if_neg c, if_pos (show zin (0 + j) from ⟨by omega, by omega⟩), Int.zero_add]
      have hz := zps_pos (τ.2 18) 20
      obtain ⟨υ, c1, c2, c3, c4, c5, c6, c7⟩ := zcell_e (N := N) (σ := τ) (c := j) (v := -1) hI (by omega) (by omega) (by omega) (by omega) (by omega)
      rw [c1]
      simp only [Option.bind_some]
      rw [if_pos (show zin (j + 1) from ⟨by omega, by omega⟩)]
      have hcell := hI.2.2.1 j.toNat (by omega)
      have hps : zps (υ.2 18) 20 = zps (τ.2 18) 20 + 0 - (if 0 ≤ τ.2 18 j.toNat then 1 else 0) := by
        rw [c4, zps_lo (by omega) (by omega), if_neg (show ¬ (0 : Int) ≤ -1 by omega)]
      have hsum : υ.1 23 + zps (υ.2 18) 20 ≤ τ.1 23 + zps (τ.2 18) 20 := by
        split at c7 <;> split at hps <;> omega
      obtain ⟨φ, d1, d2, d3, d4, d5, d6, d7⟩ := ih (j + 1) υ (by omega) (by omega) (by omega) c2 (by omega)
      refine ⟨φ, d1, d2, zfr_tr c3 d3, fun i => ?_, fun t t0 t1 => (d5 t t0 (by omega)).trans (c5 t t0 t1), by omega, by omega⟩
      rw [d4 i, c4]
      by_cases q1 : (i : Int) = j
      · rw [if_neg (by omega), if_pos (by omega), show i = j.toNat by omega, zupd_s]
      · rw [zupd_n (by omega)]
        by_cases q2 : j + 1 ≤ (i : Int) ∧ (i : Int) ≤ e
        · rw [if_pos q2, if_pos (by omega)]
        · rw [if_neg q2, if_neg (by omega)]
theorem zanew_loop {N : Nat} {r x2 e : Int} (h0 : 0 ≤ x2) (h1 : x2 < 1300) (he : e ≤ 20) (hr : 0 ≤ r) (hr1 : r < 90000) : ∀ (n : Nat) (j : Int) (μ : z_S), 1 ≤ j → e + 2 ≤ j + n → 1 ≤ n → μ.2 11 x2.toNat = e →
    ∃ υ, zMod_anew_l16 N n r x2 j μ = ((zMod_row N 6 x2 (υ.2 20 r.toNat) (υ.2 21 r.toNat) (υ.2 22 r.toNat) (υ.1 11) υ).bind fun q => zMod_row N 0 (υ.2 7 x2.toNat) q.1 0 0 0 q.2) ∧ zfr [] [17] μ υ ∧ ∀ i : Nat, υ.2 17 i = if 2 * j ≤ (i : Int) ∧ (i : Int) ≤ 2 * e + 1 then -1 else μ.2 17 i := by
  intro n
  induction n with
  | zero => intro j τ h1 h2 h3; omega
  | succ n ih =>
    intro j μ hj hn _ h11
    rw [zMod_anew_l16_s, if_pos (show zIn x2 1300 from ⟨h0, by omega⟩), h11]
    by_cases c : e < j
    · rw [if_pos c, if_pos (show zIn x2 1300 from ⟨h0, by omega⟩), if_pos (show zIn r 90000 from ⟨hr, by omega⟩)]
      refine ⟨μ, ?_, zfr_rf, fun i => by rw [if_neg (by omega)]⟩
      congr 1
      funext q
      exact bind_id _
    · rw [if_neg c, if_pos (show zin (2 * j) from ⟨by omega, by omega⟩), if_pos (show zIn (2 * j) 42 from ⟨by omega, by omega⟩), if_pos (show zin (2 * j + 1) from ⟨by omega, by omega⟩), if_pos (show zIn (2 * j + 1) 42 from ⟨by omega, by omega⟩), if_pos (show zin (j + 1) from ⟨by omega, by omega⟩)]
      obtain ⟨υ, e1, e2, e3⟩ := ih (j + 1) (zA (zA μ 17 (2 * j).toNat (-1)) 17 (2 * j + 1).toNat (-1)) (by omega) (by omega) (by omega) h11
      refine ⟨υ, e1, zfr_tr (zfr_A (zfr_A zfr_rf (by simp)) (by simp)) e2, fun i => ?_⟩
      rw [e3 i]
      show (if _ then _ else zupd (zupd (μ.2 17) (2 * j).toNat (-1)) (2 * j + 1).toNat (-1) i) = _
      by_cases q1 : (i : Int) = 2 * j
      · rw [if_neg (by omega), if_pos (by omega), zupd_n (by omega), show i = (2 * j).toNat by omega, zupd_s]
      · by_cases q2 : (i : Int) = 2 * j + 1
        · rw [if_neg (by omega), if_pos (by omega), show i = (2 * j + 1).toNat by omega, zupd_s]
        · rw [zupd_n (by omega), zupd_n (by omega)]
          by_cases q3 : 2 * (j + 1) ≤ (i : Int) ∧ (i : Int) ≤ 2 * e + 1
          · rw [if_pos q3, if_pos (by omega)]
          · rw [if_neg q3, if_neg (by omega)]
section PB
variable {N : Nat} {σ σ' μ μ' : z_S} {en fin lv ow gw kw : Int → Int} {ia : Int → Prop} {g g' : Nat → Int → Int} {r r' m p q n : Int}
theorem rLive_hi (hp : pAll σ μ en fin lv ow gw kw ia) (hA : ∀ q, 0 ≤ q → q < μ.1 18 → rOK σ μ en fin lv ia g q) (hr : rV μ r) {c c' : Nat → Int} {T : Int} (hc : ∀ i : Nat, 42 ≤ i → c' i = c i) (h : rLive σ μ en c T r) : rLive σ μ en c' T r := by
  intro k
  obtain ⟨a1, a2, a3⟩ := h k
  obtain ⟨n1, n2⟩ := zit_num hp hA hr k
  refine ⟨fun e => ?_, fun e => ?_, fun e => ?_⟩
  · have := n1 e
    rw [hc _ (by omega)]; exact a1 e
  · have := n2 e
    rw [hc _ (by omega)]; exact a2 e
  · have := n2 (Or.inr e)
    rw [hc _ (by omega)]; exact a3 e
/-- a round anew -/
theorem st_an (hN : 1000 ≤ N) (h : rI σ μ en fin lv ow gw kw ia g r p) (ht : μ.2 18 r.toNat = 5) (h18 : σ.2 1 p.toNat ≠ 18) : oCC N σ μ en fin lv ow gw kw ia r p := by
  obtain ⟨hr, hp, h8, hR, hg, hC, hP, hT, hF⟩ := rBd h
  obtain ⟨m1, m2, m3, m4, m5, m6, m7⟩ := rNx h (by omega) (by omega)
  obtain ⟨hA, b1, b2, b3, b4, b5, b6, b7, b8, b9⟩ := h
  have hq := hA.2.2.2.2.1 r hr.1 hr.2.1
  obtain ⟨a1, a2, a3, a4, a5, a6, a7, a8, a9, a10, a11, -⟩ := hq
  obtain ⟨n0, n1⟩ := a5 (by omega) (by omega) (by omega)
  obtain ⟨e1, e2, e3, e4⟩ := a6 (by omega)
  obtain ⟨hk, g0, hx, d1⟩ := a11 ht
  obtain ⟨o1, o2, o3⟩ := (b4 0).2.1 (Or.inl ht)
  change 0 ≤ σ.2 18 (63 + σ.2 3 (en (μ.2 19 r.toNat)).toNat).toNat at o1
  change σ.2 18 (63 + σ.2 3 (en (μ.2 19 r.toNat)).toNat).toNat ≤ _ at o2
  change rXY (σ.2 18 (63 + σ.2 3 (en (μ.2 19 r.toNat)).toNat).toNat) (μ.2 4 (μ.2 19 r.toNat).toNat) (μ.2 5 (μ.2 19 r.toNat).toNat) (μ.2 21 r.toNat) (μ.2 22 r.toNat) at o3
  dsimp only at g0 hx d1 e1 e2 e3 e4
  clear a2 a3 a4 a5 a6 a7 a8 a9 a10 a11
  generalize hn : μ.2 19 r.toNat = n at *
  generalize hm : μ.2 20 r.toNat = m at *
  generalize hxx : μ.2 21 r.toNat = x at *
  generalize hyy : μ.2 22 r.toNat = y at *
  obtain ⟨k1, k2, k3, k4, k5, k6, k7, k8, k9, k10, k11⟩ := (hA.1.2.2.1 n n0 n1).2.2.2.2.2.2 hk
  have hen := (hA.1.2.2.1 n n0 n1).2.1 (by omega)
  have hpe : p = en n + 1 := by rw [← g0]; exact zpx_no b2 h18
  obtain ⟨N1, N2, N3, N4, N5, N6, N7, N8⟩ := id hA.2.2.2.1
  obtain ⟨T1, T2, T3, T4, T5, T6, T7, T8, T9⟩ := id hA.2.1
  have hR0 : 0 ≤ μ.1 18 := by have := hr.1; have := hr.2.1; omega
  have hk13 : σ.2 1 p.toNat = 13 := by rw [hpe]; exact k2
  have hf3 : σ.2 3 p.toNat = σ.2 3 (en n).toNat := by rw [hpe]; exact k5.2.2.1
  have hsl : rSl μ r = -1 := by unfold rSl; rw [if_pos ht]
  have hex : rEx μ r = 0 := by unfold rEx; rw [if_neg (by omega), if_neg (by omega)]
  generalize hrp : σ.2 3 (en n).toNat = rp at *
  generalize hkk : σ.2 18 (63 + rp).toNat = k at *
  have hz := zps_pos (σ.2 18) 20
  -- the class
  obtain ⟨τ, c1, c2, c3, c4, c5, c6, c7⟩ := zcell_e (N := N) (σ := σ) (c := 163 + rp) (v := σ.1 24) hA.2.2.1 (by omega) (by omega) (by omega) (by omega) (by omega)
  have c7' : τ.1 23 ≤ σ.1 23 + 1 := by split at c7 <;> omega
  have hps : zps (τ.2 18) 20 = zps (σ.2 18) 20 := by rw [c4, zps_hi (by omega)]
  obtain ⟨υ, f1, f2, f3, f4, f5, f6, f7⟩ := zent_loop (N := N) (e := μ.2 11 n.toNat) k11.2.2.2.1 N (μ.2 10 n.toNat + 1) τ (by omega) (by omega) (by omega) c2 (by omega)
  have hfc : zfr [23] [18, 22] σ υ := zfr_tr c3 f3
  have hcl : zMachine_perform N p σ = some (σ.2 2 p.toNat, υ) := by
    rw [zP_13 hp.1 hp.2 hk13, hf3, zMachine_enterRepetition_u, if_pos (show zin (163 + rp) from ⟨by omega, by omega⟩), c1]
    simp only [Option.bind_some]
    rw [zrr (by decide) (by omega) (by show rp < (100 : Int); omega)]
    simp only [Option.bind_some]
    rw [zrr (by decide) (by omega) (by show rp < (100 : Int); omega)]
    simp only [Option.bind_some]
    rw [c3.2 10 (by simp), c3.2 11 (by simp), k11.1, k11.2.1, if_pos (show zin (μ.2 10 n.toNat + 1) from ⟨by omega, by omega⟩), f1]
    rfl
  -- the reference
  obtain ⟨ν, u1, u2, u3⟩ := zanew_loop (N := N) (r := r) (x2 := n) (e := μ.2 11 n.toNat) n0 (by omega) k11.2.2.2.1 hr.1 hR.2 N (μ.2 10 n.toNat + 1) μ (by omega) (by omega) (by omega) rfl
  have v20 : ν.2 20 = μ.2 20 := u2.2 20 (by simp)
  have v21 : ν.2 21 = μ.2 21 := u2.2 21 (by simp)
  have v22 : ν.2 22 = μ.2 22 := u2.2 22 (by simp)
  have v7 : ν.2 7 = μ.2 7 := u2.2 7 (by simp)
  have v3 : ν.2 3 = μ.2 3 := u2.2 3 (by simp)
  have v4 : ν.2 4 = μ.2 4 := u2.2 4 (by simp)
  have v5 : ν.2 5 = μ.2 5 := u2.2 5 (by simp)
  have v11 : ν.1 11 = μ.1 11 := u2.1 11 (by simp)
  have v18 : ν.1 18 = μ.1 18 := u2.1 18 (by simp)
  have v16 : ν.1 16 = μ.1 16 := u2.1 16 (by simp)
  have v8 : ν.1 8 = μ.1 8 := u2.1 8 (by simp)
  have v18' : ν.2 18 = μ.2 18 := u2.2 18 (by simp)
  have v19 : ν.1 19 = μ.1 19 := u2.1 19 (by simp)
  have v7' : ν.1 7 = μ.1 7 := u2.1 7 (by simp)
  rw [v20, v21, v22, v7, v11, hm, hxx, hyy] at u1
  obtain ⟨z0, z18, z19, z20, -, -, -⟩ := zrow_n (μ := ν) (t := 6) (n := n) (m := m) (x := x) (y := y) (z := μ.1 11)
  have hml : zMod_perform N r μ = some (μ.1 18 + 1, zrow (zrow ν 6 n m x y (μ.1 11)) 0 (μ.2 7 n.toNat) (μ.1 18) 0 0 0) := by
    rw [zQ_5 hr.1 hR.2 ht, zMod_anew_u, if_pos (show zIn r 90000 from ⟨hr.1, by omega⟩), hn, if_pos (show zIn n 1300 from ⟨n0, by omega⟩), if_pos (show zin (μ.2 10 n.toNat + 1) from ⟨by omega, by omega⟩), u1, zrow_e (by omega) (by omega)]
    simp only [Option.bind_some]
    rw [zrow_e (by rw [z0]; omega) (by rw [z0]; omega), z0, v18]
  -- both
  obtain ⟨s1, hc⟩ := rAll_set m1 m2 (by exact f2) hfc (fun t t0 t1 => (f5 t t0 (by omega)).trans (c5 t t0 t1))
  have s2 := rAll_gr s1 m2 u2
  have hcm : cutM ν = cutM μ := cutM_fr u2 (by simp) (by simp)
  have s3 : rLks υ ν en m := rLks_fr hc hcm (hfc.2 23 (by simp)) (hfc.2 24 (by simp)) (fun j j1 j2 => u2.2 j (by simp; omega)) v19 m3
  have hV : rV ν m := ⟨m2.1, by rw [v18]; exact m2.2.1, by rw [v18']; exact m2.2.2⟩
  have hcell : ∀ i : Nat, 42 ≤ i → υ.2 18 i = zupd (σ.2 18) (163 + rp).toNat (σ.1 24) i := fun i hi => by
    rw [f4 i, if_neg (by omega), c4]
  have hd : g 1 m < 2 * lv n := by omega
  have s4 : rLive υ ν en (υ.2 18) (μ.1 16) m := by
    have w := (rLive_rep (v := σ.1 24) hA.1 hA.2.2.2.2.1 m2 n0 n1 hk (by unfold rDp; rw [if_pos hk]; exact hd) m6.2 m4).2
    rw [hrp] at w
    exact rLive_fr hc hcm (fun j j1 j2 => u2.2 j (by simp; omega)) (Int.le_refl _) (rLive_hi hA.1 hA.2.2.2.2.1 m2 hcell w)
  have hzpx : ∀ a b, zpx σ a b → zpx υ a b := fun a b h => by unfold zpx at h ⊢; rw [hfc.2 1 (by simp), hfc.2 2 (by simp), hfc.1 4 (by simp)]; exact h
  have τ3 : υ.2 3 = σ.2 3 := hfc.2 3 (by simp)
  have τ2 : υ.2 2 = σ.2 2 := hfc.2 2 (by simp)
  obtain ⟨x1, x2, x3, x4⟩ := rAdc (t := 6) (n := n) (x := x) (y := y) (z := μ.1 11) s2 hV s3 (by decide) (by decide) (mk_t6 (bOK_of s2 hV) ⟨m5.1, by rw [v18]; have := hr.2.1; omega⟩ (by rw [v18']; exact m6) ⟨n0, by rw [v8]; exact n1⟩ (by rw [v3]; exact hk) (by rw [τ2]; exact hzpx _ _ hx) hd) (c := υ.2 18) (T := μ.1 16) ⟨fun h => absurd h (by decide), fun _ => by
      rw [τ3, hrp, hcell _ (by omega), zupd_n (by omega), hkk, v4, v5]; exact ⟨o1, o2, o3⟩, fun _ => by rw [τ3, hrp, hcell _ (by omega), zupd_s, T1]⟩ s4
  rw [v18] at x1 x2 x3 x4 z18 z19 z20
  have f8 : (zrow ν 6 n m x y (μ.1 11)).1 8 = μ.1 8 := v8
  have f3' : (zrow ν 6 n m x y (μ.1 11)).2 3 = μ.2 3 := v3
  have hpxf : pex (zrow ν 6 n m x y (μ.1 11)) en (μ.2 7 n.toNat) = pex μ en (μ.2 7 n.toNat) := by unfold pex; rw [f3']
  obtain ⟨y1, y2, y3, y4⟩ := rAdc (t := 0) (n := μ.2 7 n.toNat) (x := 0) (y := 0) (z := 0) x1 x2 x3 (by decide) (by decide) (mk_t0 (bOK_of x1 x2) ⟨hR0, by rw [z0, v18]; omega⟩ (by rw [z18]; exact ⟨by decide, by decide⟩) ⟨k6.1, by rw [f8]; exact k6.2.1⟩ (by rw [f3']; omega) (by
      rw [hpxf, τ2, gup_0.1, k8]; exact zpx_rf) (by
      rw [gup_0.2.1]
      show 2 * lv n < rDp (zrow ν 6 n m x y (μ.1 11)) lv (μ.2 7 n.toNat)
      unfold rDp
      rw [f3', if_neg (by omega)]
      omega)) (dy_0 (by decide) (by decide) (by decide)) x4
  rw [z0, v18] at y1 y2 y3 y4
  obtain ⟨w0, w18, w19, w20, -, -, -⟩ := zrow_n (μ := zrow ν 6 n m x y (μ.1 11)) (t := 0) (n := μ.2 7 n.toNat) (m := μ.1 18) (x := 0) (y := 0) (z := 0)
  rw [z0, v18] at w0 w18 w19 w20
  have hp' : σ.2 2 p.toNat = en (μ.2 7 n.toNat) := by rw [hpe]; exact k7
  have hpos := (hA.1.2.2.1 _ k6.1 k6.2.1).2.1 (by omega)
  refine ⟨1, _, _, _, _, _, by omega, zCs_of hcl hp.1 (by rw [hp']; omega), zMs_of hml hr.1 hR.2 (by omega) (by omega), ⟨y1, y2, ?_, ?_, ?_, y3, ?_, ?_, ?_, ?_⟩, zfr_up hfc (by simp) (by simp), zfr_tr (zfr_up u2 (by simp) (by simp)) (zfr_tr fM_row fM_row), ?_⟩
  · rw [gup_0.1, hp']; exact zpx_rf
  · show zGR (υ.2 18) (ν.2 17) (ν.1 7)
    rw [v7']
    intro i hi
    have hb := b3 i hi
    rw [f4 i, f4 (21 + i), u3 (2 * i), u3 (2 * i + 1), if_neg (show ¬ (μ.2 10 n.toNat + 1 ≤ ((21 + i : Nat) : Int) ∧ ((21 + i : Nat) : Int) ≤ μ.2 11 n.toNat) by omega), c4, zupd_n (show i ≠ (163 + rp).toNat by omega), zupd_n (show 21 + i ≠ (163 + rp).toNat by omega)]
    by_cases q1 : μ.2 10 n.toNat + 1 ≤ (i : Int) ∧ (i : Int) ≤ μ.2 11 n.toNat
    · rw [if_pos q1, if_pos (by omega), if_pos (by omega)]
      exact ⟨rfl, fun w => by omega, fun _ => rfl⟩
    · rw [if_neg q1, if_neg (by omega), if_neg (by omega)]
      exact hb
  · show rLive υ _ en (υ.2 18) (ν.1 16) _
    rw [v16]; exact y4
  · rw [gup_0.2.2.2.2]
    show gup g (μ.1 18) _ _ _ _ _ 4 (μ.1 18) ≤ ν.1 11
    rw [gup_0.2.2.2.2, v11]; show g 4 m ≤ μ.1 11; omega
  · rw [gup_0.2.2.1]
    show υ.1 23 + 3 * gup g (μ.1 18) _ _ _ _ _ 2 (μ.1 18) + zps (υ.2 18) 20 ≤ 4 * ν.1 16 + _
    rw [gup_0.2.2.1, v16]
    have h1 := rSl_0 (μ := zrow (zrow ν 6 n m x y (μ.1 11)) 0 (μ.2 7 n.toNat) (μ.1 18) 0 0 0) (r := μ.1 18 + 1) (by rw [w18]; decide)
    show υ.1 23 + 3 * g 2 m + _ ≤ _
    omega
  · have h1 : 2 ≤ rEx (zrow (zrow ν 6 n m x y (μ.1 11)) 0 (μ.2 7 n.toNat) (μ.1 18) 0 0 0) (μ.1 18 + 1) := by
      unfold rEx; rw [w18, if_pos rfl]; split <;> omega
    rw [w0]
    show _ ≤ 7 * ν.1 16 + 2 + _
    omega
  · rw [gup_0.2.2.2.1]
    show ν.1 19 ≤ ν.1 16 + gup g (μ.1 18) _ _ _ _ _ 3 (μ.1 18)
    rw [gup_0.2.2.2.1, v16, v19]
    show _ ≤ μ.1 16 + g 3 m
    omega
  · have hkf : hh σ lv ow (en (μ.2 7 n.toNat)) ≤ 80 := by
      have hnf := hA.1.2.2.1 _ k6.1 k6.2.1
      rcases k6.2.2.1 with q | q | q
      · have : σ.2 1 (en (μ.2 7 n.toNat)).toNat ≤ 12 := by
          obtain ⟨t3, t4, t5, t6, t7, -⟩ := hnf.2.2.1
          have : μ.2 3 (μ.2 7 n.toNat).toNat = 3 ∨ μ.2 3 (μ.2 7 n.toNat).toNat = 4 ∨ μ.2 3 (μ.2 7 n.toNat).toNat = 5 ∨ μ.2 3 (μ.2 7 n.toNat).toNat = 6 ∨ μ.2 3 (μ.2 7 n.toNat).toNat = 7 := by omega
          rcases this with w | w | w | w | w
          · have := t3 w; omega
          · have := t4 w; omega
          · have := t5 w; omega
          · have := t6 w; omega
          · have := t7 w; omega
        rw [hh_lo this]; omega
      · rw [hh_op (by have := (hnf.2.2.2.2.2.1 (by omega) (by omega)).1; omega)]; omega
      · rw [hh_op (by have := (hnf.2.2.2.2.2.1 (by omega) (by omega)).1; omega)]; omega
    unfold Mc
    rw [hh_mv hc, hh_13 hk13, hp', hfc.1 25 (by simp), hfc.1 27 (by simp), hfc.1 22 (by simp)]
    omega
end PB
