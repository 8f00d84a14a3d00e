/-! steps and choices -/
theorem zF_i {σ : z_S} {k : Nat} {v : Int} (h : σ.1 k = v) : zF σ k v = σ := by
  refine Prod.ext (funext fun j => ?_) rfl
  rw [zF_1]
  by_cases e : j = k
  · rw [if_pos e, e, h]
  · rw [if_neg e]
theorem zF_swap {σ : z_S} {j k : Nat} {v w : Int} (h : j ≠ k) : zF (zF σ j v) k w = zF (zF σ k w) j v := by
  refine Prod.ext (funext fun i => ?_) rfl
  rw [zF_1, zF_1, zF_1, zF_1]
  by_cases e : i = k
  · rw [if_pos e, if_neg (fun q => h (q.symm.trans e)), if_pos e]
  · rw [if_neg e, if_neg e]
theorem zrow_16 {μ : z_S} {v a b c d e f : Int} : zF (zrow μ a b c d e f) 16 v = zrow (zF μ 16 v) a b c d e f := by
  show zF (zF _ 18 (μ.1 18 + 1)) 16 v = zF _ 18 (μ.1 18 + 1)
  rw [zF_swap (by decide)]
  rfl
theorem zpush_16 {μ : z_S} {v a b c : Int} : zF (zpush μ a b c) 16 v = zpush (zF μ 16 v) a b c := by
  refine Prod.ext (funext fun j => ?_) rfl
  show (if j = 16 then v else if j = 19 then μ.1 19 + 1 else μ.1 j) = if j = 19 then μ.1 19 + 1 else if j = 16 then v else μ.1 j
  by_cases e : j = 16
  · rw [if_pos e, if_neg (by omega), if_pos e]
  · rw [if_neg e, if_neg e]
section OW
variable {N : Nat} {σ σ' μ μ' : z_S} {en fin lv ow gw kw : Int → Int} {ia : Int → Prop} {g g' : Nat → Int → Int} {r r' m p q : Int}
/-- a step -/
theorem rAll_st {k : Int} (hA : rAll σ μ en fin lv ow gw kw ia g r) (hr : rV μ r) (hk0 : μ.1 16 ≤ k) (hk : k ≤ μ.1 17) : rAll (zF σ 27 k) (zF μ 16 k) en fin lv ow gw kw ia g r := by
  obtain ⟨t1, t2, t3, t4, t5, t6, t7, t8, t9⟩ := hA.2.1
  have h := rAll_num (k := k) (w := μ.1 11) hA hr hk0 hk (by omega) (by omega)
  rw [zF_i (σ := zF σ 27 k) (k := 24) (v := μ.1 11) t1, zF_i (σ := zF μ 16 k) (k := 11) (v := μ.1 11) rfl] at h
  exact h
theorem rLks_st {k : Int} (h : rLks σ μ en r) : rLks (zF σ 27 k) (zF μ 16 k) en r := rLks_fr (cutC_fr (zfr_F (ks := [27]) (js := []) zfr_rf (by simp)) (by simp) (by simp)) (cutM_fr (zfr_F (ks := [16]) (js := []) zfr_rf (by simp)) (by simp) (by simp)) rfl rfl (fun _ _ _ => rfl) rfl h
theorem rLive_st {k T T' : Int} {c : Nat → Int} (hT : T ≤ T') (h : rLive σ μ en c T r) : rLive (zF σ 27 k) (zF μ 16 k) en c T' r := rLive_fr (cutC_fr (zfr_F (ks := [27]) (js := []) zfr_rf (by simp)) (by simp) (by simp)) (cutM_fr (zfr_F (ks := [16]) (js := []) zfr_rf (by simp)) (by simp) (by simp)) (fun _ _ _ => rfl) hT h
/-- an entry more, and m is on -/
theorem rPu (hA : rAll σ μ en fin lv ow gw kw ia g q) (hq : rV μ q) (hl : rLks σ μ en q) {l : Int} (hl0 : 0 ≤ l) (hl2 : l ≤ 2) (hm : rV μ m) (hqm : rSub μ q m) (hlm : rLks σ μ en m) {c : Nat → Int} {T : Int} (hli : rLive σ μ en c T m) (hnl : μ.1 19 ≤ μ.1 16 + g 3 q)
    (h1 : l = 1 → σ' = σ) (h2 : l ≠ 1 → σ' = zch σ p ∧ zpx σ p (g 0 q) ∧ g 4 q ≤ μ.1 11 ∧ zGR (σ.2 18) (μ.2 17) (μ.1 7) ∧ rLive σ μ en (σ.2 18) (μ.1 16) q ∧ σ.1 23 + 3 * g 2 q + zps (σ.2 18) 20 ≤ 4 * μ.1 16 + (if μ.2 18 q.toNat = 5 then -1 else 0)) :
    rAll σ' (zpush μ q (μ.1 11) l) en fin lv ow gw kw ia g m ∧ rV (zpush μ q (μ.1 11) l) m ∧ rLks σ' (zpush μ q (μ.1 11) l) en m ∧ rLive σ' (zpush μ q (μ.1 11) l) en c T m := by
  have hc : cutC σ' = cutC σ := by
    by_cases e : l = 1
    · rw [h1 e]
    · rw [(h2 e).1]; exact cutC_fr zch_fr (by simp) (by simp)
  have h34 : σ'.2 23 = σ.2 23 ∧ σ'.2 24 = σ.2 24 := by
    by_cases e : l = 1
    · rw [h1 e]; exact ⟨rfl, rfl⟩
    · rw [(h2 e).1]; exact ⟨zch_fr.2 23 (by simp), zch_fr.2 24 (by simp)⟩
  have hcm : cutM (zpush μ q (μ.1 11) l) = cutM μ := cutM_fr zpush_fr (by simp) (by simp)
  obtain ⟨u24, u25, u26, u19, uo, uf⟩ := zpush_at (μ := μ) (q := q) (w := μ.1 11) (l := l)
  have h6 := hA.2.2.2.1.2.2.2.2.2.1
  refine ⟨rAll_push hA hq hl0 hl2 hq rSub_rf hqm hm hl rSub_rf hnl h1 h2, ⟨hm.1, hm.2.1, hm.2.2⟩, ?_, rLive_fr hc hcm (fun j j1 j2 => uo j (by omega) (by omega) (by omega) (by omega)) (Int.le_refl _) hli⟩
  refine rLks_ag hc hcm (fun j j1 j2 i _ => by rw [uo j (by omega) (by omega) (by omega) (by omega)]) hA.2.2.2.2.1 hm (fun k hk => ?_) (fun i hi hi2 => ?_) (fun k _ => ⟨by rw [h34.1], by rw [h34.2]⟩) hlm
  · have := (hlm k hk).2.1
    rw [u19]; omega
  · rw [u24, u26, zupd_n (by omega), zupd_n (by omega)]
    exact ⟨rfl, rfl⟩
theorem fC_ch {p : Int} : fC σ (zch σ p) := zfr_up zch_fr (by simp) (by simp)
theorem fM_push {a b c : Int} : fM μ (zpush μ a b c) := zfr_up zpush_fr (by simp) (by simp)
theorem fC_27 {k : Int} : fC σ (zF σ 27 k) := zfr_F zfr_rf (by simp)
theorem fM_16 {k : Int} : fM μ (zF μ 16 k) := zfr_F zfr_rf (by simp)
theorem rSl_t (h5 : μ.2 18 r.toNat ≠ 5) (h1 : μ.2 18 r.toNat ≠ 1) (h0 : μ.2 18 r.toNat = 0 → μ.2 3 (μ.2 19 r.toNat).toNat ≠ 1) : rSl μ r = 0 := by
  unfold rSl
  rw [if_neg h5, if_neg (fun z => by rcases z with z | z; exact h1 z; exact h0 z.1 z.2)]
/-- from an alternative -/
theorem st_fr (hN : 43 ≤ N) (h : rI σ μ en fin lv ow gw kw ia g r p) (ht : μ.2 18 r.toNat = 1) (h18 : σ.2 1 p.toNat ≠ 18) : oCC N σ μ en fin lv ow gw kw ia r p ∨ oD N σ μ r p := by
  obtain ⟨hr, hp, h8, hR, hg, hC, hP, hT, hF⟩ := rBd h
  obtain ⟨m1, m2, m3, m4, m5, m6, m7⟩ := rNx h (by omega) (by omega)
  obtain ⟨hA, b1, b2, b3, b4, b5, b6, b7, b8, b9⟩ := h
  have hq := hA.2.2.2.2.1 r hr.1 hr.2.1
  obtain ⟨a1, a2, a3, a4, a5, a6, a7, a8, -⟩ := hq
  obtain ⟨e1, e2, e3, e4⟩ := a6 (by omega)
  obtain ⟨n0, n1⟩ := a5 (by omega) (by omega) (by omega)
  obtain ⟨f0, f1, f2, f3⟩ := a8 ht
  dsimp only at e1 e2 e3 e4 f1 f2 f3
  have hpe : p = en (μ.2 19 r.toNat) := by rw [← f1]; exact zpx_no b2 h18
  have hnode := hA.1.2.2.1 _ n0 n1
  obtain ⟨k1, k2, k3, k4, k5⟩ := (hnode.2.2.2.1 f0).1
  rw [← hpe] at k1 k2 k4
  obtain ⟨N1, N2, N3, N4, N5, N6, N7, N8⟩ := hA.2.2.2.1
  have hR0 : 0 ≤ μ.1 18 := by have := hr.1; have := hr.2.1; omega
  have hsl : rSl μ r = 4 := by unfold rSl; rw [if_neg (by omega), if_pos (Or.inl ht)]
  have hex : rEx μ r = 5 := by unfold rEx; rw [if_neg (by omega), if_pos ht]
  have hbh : ∀ n', 0 ≤ n' → n' < μ.1 8 → μ.2 3 n'.toNat = 2 → 1 ≤ en n' := fun n' x0 x1 x2 => ((hA.1.2.2.1 n' x0 x1).2.1 (by omega)).1
  obtain ⟨z0, z18, z19, z20, -, -, -⟩ := zrow_n (μ := μ) (t := 1) (n := μ.2 9 (μ.2 19 r.toNat).toNat) (m := μ.2 20 r.toNat) (x := 0) (y := 0) (z := 0)
  by_cases hfu : μ.1 16 = μ.1 17
  · right
    have hcl : zMachine_perform N p σ = some (-3, σ) := zP_no hp.1 hp.2 (by omega) (by omega) (by omega)
    by_cases hb : μ.2 9 (μ.2 19 r.toNat).toNat < 0
    · refine ⟨1, σ, μ, by omega, zCs_of hcl hp.1 (by decide), zMo_of ?_ hr.1 hR.2 (by omega), zfr_rf, zfr_rf, N1, hA.2.2.1.2.2.1, rfl⟩
      rw [zQ_1n hr.1 hR.2 ht n0 (by omega) hb, zspend_no hfu]
      rfl
    · refine ⟨1, σ, zpush (zrow μ 1 (μ.2 9 (μ.2 19 r.toNat).toNat) (μ.2 20 r.toNat) 0 0 0) (μ.1 18) (μ.1 11) 0, by omega, zCs_of hcl hp.1 (by decide), zMo_of ?_ hr.1 hR.2 (by omega), zfr_rf, zfr_tr fM_row fM_push, N1, hA.2.2.1.2.2.1, rfl⟩
      rw [zQ_1 hr.1 hR.2 ht n0 (by omega) (by omega), zrow_e hR0 (by omega)]
      simp only [Option.bind_some]
      rw [zpush_e (μ := zrow μ 1 _ _ 0 0 0) hN hP.1 (by show μ.1 19 < 16000; omega)]
      simp only [Option.bind_some]
      rw [zspend_no (σ := zpush (zrow μ 1 _ _ 0 0 0) _ _ 0) hfu]
      rfl
  · left
    -- after the step, at the next row
    have s1 := rAll_st (k := μ.1 16 + 1) m1 m2 (by omega) (by omega)
    have s2 : rV (zF μ 16 (μ.1 16 + 1)) (μ.2 20 r.toNat) := m2
    have s3 := rLks_st (k := μ.1 16 + 1) m3
    have s4 := rLive_st (k := μ.1 16 + 1) (T' := μ.1 16 + 1) (by omega) m4
    have hs27 : σ.1 27 + 1 = μ.1 16 + 1 := by omega
    -- the state from which the terms go on
    have main : ∀ (σ1 μ1 : z_S) (g1 : Nat → Int → Int), rAll σ1 μ1 en fin lv ow gw kw ia g1 (μ.2 20 r.toNat) → rV μ1 (μ.2 20 r.toNat) → rLks σ1 μ1 en (μ.2 20 r.toNat) → rLive σ1 μ1 en (σ.2 18) (μ.1 16 + 1) (μ.2 20 r.toNat) → cutC σ1 = cutC σ → cutM μ1 = cutM μ →
        (∀ j, g1 j (μ.2 20 r.toNat) = g j (μ.2 20 r.toNat)) → σ1.2 18 = σ.2 18 → σ1.1 23 = σ.1 23 → σ1.1 27 = σ.1 27 + 1 → σ1.1 25 = σ.1 25 → σ1.1 22 ≤ σ.1 22 + 1 → μ1.2 17 = μ.2 17 → μ1.1 16 = μ.1 16 + 1 → μ1.1 7 = μ.1 7 → μ1.1 11 = μ.1 11 → μ.1 18 ≤ μ1.1 18 → μ1.1 18 ≤ μ.1 18 + 1 → μ1.1 19 ≤ μ.1 19 + 1 → μ1.2 18 (μ.2 20 r.toNat).toNat = μ.2 18 (μ.2 20 r.toNat).toNat → fC σ σ1 → fM μ μ1 →
        rI σ1 (zrow μ1 2 (μ.2 7 (μ.2 19 r.toNat).toNat) (μ.2 20 r.toNat) 0 0 0) en fin lv ow gw kw ia (gup g1 (μ1.1 18) (if μ.2 7 (μ.2 19 r.toNat).toNat < 0 then g1 0 (μ.2 20 r.toNat) else en (μ.2 7 (μ.2 19 r.toNat).toNat)) (g1 1 (μ.2 20 r.toNat)) (g1 2 (μ.2 20 r.toNat)) (g1 3 (μ.2 20 r.toNat)) (g1 4 (μ.2 20 r.toNat))) (μ1.1 18) (σ.2 2 p.toNat) ∧
          Mc σ1 lv ow (σ.2 2 p.toNat) < Mc σ lv ow p := by
      intro σ1 μ1 g1 q1 q2 q3 q4 hc hm hg1 h18 h23 h27 h25 h22 h17 h16 h7 h11 hr1 hr2 h19 ht1 f1' f2'
      have m3' : μ1.2 3 = μ.2 3 := by have := congrArg (fun z : z_S => z.2 3) hm; exact this
      have m8' : μ1.1 8 = μ.1 8 := by have := congrArg (fun z : z_S => z.1 8) hm; exact this
      have c1' : σ1.2 1 = σ.2 1 := by have := congrArg (fun z : z_S => z.2 1) hc; exact this
      have c2' : σ1.2 2 = σ.2 2 := by have := congrArg (fun z : z_S => z.2 2) hc; exact this
      have c4' : σ1.1 4 = σ.1 4 := by have := congrArg (fun z : z_S => z.1 4) hc; exact this
      have hzpx : ∀ a b, zpx σ a b → zpx σ1 a b := fun a b h => by unfold zpx at h ⊢; rw [c1', c2', c4']; exact h
      obtain ⟨x1, x2, x3, x4⟩ := rAdc (t := 2) (n := μ.2 7 (μ.2 19 r.toNat).toNat) (x := 0) (y := 0) (z := 0) q1 q2 q3 (by decide) (by decide) (mk_t2 (a0 := if μ.2 7 (μ.2 19 r.toNat).toNat < 0 then g1 0 (μ.2 20 r.toNat) else en (μ.2 7 (μ.2 19 r.toNat).toNat)) (bOK_of q1 q2) ⟨m5.1, by have := hr.2.1; omega⟩ (by rw [ht1]; exact m6) (by
          by_cases e : μ.2 7 (μ.2 19 r.toNat).toNat < 0
          · exact Or.inl ⟨e, by rw [if_pos e]⟩
          · obtain ⟨d1, d2, d3, d4⟩ := k5 (by omega)
            refine Or.inr ⟨by omega, by rw [m8']; exact d1, d2, by rw [if_neg e], ?_, ?_⟩
            · rw [d3, hg1]; exact hzpx _ _ f2
            · rw [d4, hg1]; omega)) (dy_0 (by decide) (by decide) (by decide)) q4
      obtain ⟨w0, w18, w19, w20, -, -, -⟩ := zrow_n (μ := μ1) (t := 2) (n := μ.2 7 (μ.2 19 r.toNat).toNat) (m := μ.2 20 r.toNat) (x := 0) (y := 0) (z := 0)
      refine ⟨⟨x1, x2, ?_, ?_, ?_, x3, ?_, ?_, ?_, ?_⟩, ?_⟩
      · rw [gup_0.1, k4]
        by_cases e : μ.2 7 (μ.2 19 r.toNat).toNat < 0
        · rw [if_pos e, if_pos e, hg1]; exact hzpx _ _ f2
        · rw [if_neg e, if_neg e]; exact zpx_rf
      · show zGR (σ1.2 18) (μ1.2 17) (μ1.1 7)
        rw [h18, h17, h7]; exact b3
      · show rLive σ1 _ en (σ1.2 18) (μ1.1 16) _
        rw [h18, h16]; exact x4
      · rw [gup_0.2.2.2.2, hg1]
        show _ ≤ μ1.1 11
        omega
      · have h0 := rSl_0 (μ := zrow μ1 2 (μ.2 7 (μ.2 19 r.toNat).toNat) (μ.2 20 r.toNat) 0 0 0) (r := μ1.1 18) (by rw [w18]; decide)
        rw [gup_0.2.2.1, hg1, h18, h23]
        show _ ≤ 4 * μ1.1 16 + _
        omega
      · have h0 := rEx_0 (μ := zrow μ1 2 (μ.2 7 (μ.2 19 r.toNat).toNat) (μ.2 20 r.toNat) 0 0 0) (r := μ1.1 18)
        rw [w0]
        show _ ≤ 7 * μ1.1 16 + 2 + _
        omega
      · rw [gup_0.2.2.2.1, hg1]
        show μ1.1 19 ≤ μ1.1 16 + _
        omega
      · have := (hh_bd σ lv ow (σ.2 2 p.toNat)).2
        unfold Mc
        rw [hh_mv hc, hh_lo (p := p) (by omega), h25, h27]
        omega
    by_cases hb : μ.2 9 (μ.2 19 r.toNat).toNat < 0
    · obtain ⟨y1, y2⟩ := main (zF σ 27 (μ.1 16 + 1)) (zF μ 16 (μ.1 16 + 1)) g s1 s2 s3 s4 (cutC_fr (zfr_F (ks := [27]) (js := []) zfr_rf (by simp)) (by simp) (by simp)) (cutM_fr (zfr_F (ks := [16]) (js := []) zfr_rf (by simp)) (by simp) (by simp)) (fun _ => rfl) rfl rfl (by show μ.1 16 + 1 = _; omega) rfl (by show σ.1 22 ≤ _; omega) rfl rfl rfl rfl (Int.le_refl _) (by show μ.1 18 ≤ _; omega) (by show μ.1 19 ≤ _; omega) rfl fC_27 fM_16
      have hcl := zP_11 (N := N) hp.1 hp.2 k1 (by omega) hF.1 hF.2.1 hC.1 (by omega)
      rw [k2, if_pos hb, if_pos rfl, hs27] at hcl
      have hml : zMod_perform N r μ = some (μ.1 18, zrow (zF μ 16 (μ.1 16 + 1)) 2 (μ.2 7 (μ.2 19 r.toNat).toNat) (μ.2 20 r.toNat) 0 0 0) := by
        rw [zQ_1n hr.1 hR.2 ht n0 (by omega) hb, zspend hfu N2 (by omega)]
        simp only [Option.bind_some, Int.reduceEq, if_false]
        exact zrow_e hR0 (by show μ.1 18 < 90000; omega)
      exact ⟨1, _, _, _, _, _, by omega, zCs_of hcl hp.1 (by have := (rBd y1).2.1; omega), zMs_of hml hr.1 hR.2 (by omega) hR0, y1, fC_27, zfr_tr fM_16 fM_row, y2⟩
    · obtain ⟨d1, d2, d3, d4⟩ := k3 (by omega)
      obtain ⟨x1, x2, x3, x4⟩ := rAdc (t := 1) (n := μ.2 9 (μ.2 19 r.toNat).toNat) (x := 0) (y := 0) (z := 0) s1 s2 s3 (by decide) (by decide) (mk_t1 (bOK_of s1 s2) ⟨m5.1, by show _ < μ.1 18; have := hr.2.1; omega⟩ m6 ⟨by omega, d1⟩ d2 (by rw [d3]; exact f2) (by rw [d4]; show g 1 (μ.2 20 r.toNat) < _; omega)) (dy_0 (by decide) (by decide) (by decide)) s4
      obtain ⟨w0, w18, w19, w20, -, -, -⟩ := zrow_n (μ := zF μ 16 (μ.1 16 + 1)) (t := 1) (n := μ.2 9 (μ.2 19 r.toNat).toNat) (m := μ.2 20 r.toNat) (x := 0) (y := 0) (z := 0)
      have hmlt : (((μ.2 20 r.toNat).toNat : Nat) : Int) < μ.1 18 := by have := hr.2.1; omega
      have ho : oAg (μ.1 18) (zF μ 16 (μ.1 16 + 1)) (zrow (zF μ 16 (μ.1 16 + 1)) 1 (μ.2 9 (μ.2 19 r.toNat).toNat) (μ.2 20 r.toNat) 0 0 0) := zrow_ag (μ := zF μ 16 (μ.1 16 + 1)) hR0
      have hsub : rSub (zrow (zF μ 16 (μ.1 16 + 1)) 1 (μ.2 9 (μ.2 19 r.toNat).toNat) (μ.2 20 r.toNat) 0 0 0) (μ.1 18) (μ.2 20 r.toNat) := by
        have := rSub_cons (μ := zrow (zF μ 16 (μ.1 16 + 1)) 1 (μ.2 9 (μ.2 19 r.toNat).toNat) (μ.2 20 r.toNat) 0 0 0) (r := μ.1 18) (by rw [show (zrow (zF μ 16 (μ.1 16 + 1)) 1 (μ.2 9 (μ.2 19 r.toNat).toNat) (μ.2 20 r.toNat) 0 0 0).2 18 (μ.1 18).toNat = 1 from w18]; decide)
        rw [show (zrow (zF μ 16 (μ.1 16 + 1)) 1 (μ.2 9 (μ.2 19 r.toNat).toNat) (μ.2 20 r.toNat) 0 0 0).2 20 (μ.1 18).toNat = μ.2 20 r.toNat from w20] at this
        exact this
      have hlk : rLks (zF σ 27 (μ.1 16 + 1)) (zrow (zF μ 16 (μ.1 16 + 1)) 1 (μ.2 9 (μ.2 19 r.toNat).toNat) (μ.2 20 r.toNat) 0 0 0) en (μ.2 20 r.toNat) := by
        have := rLks_next x3
        rw [show (zrow (zF μ 16 (μ.1 16 + 1)) 1 (μ.2 9 (μ.2 19 r.toNat).toNat) (μ.2 20 r.toNat) 0 0 0).2 20 ((zF μ 16 (μ.1 16 + 1)).1 18).toNat = μ.2 20 r.toNat from w20] at this
        exact this
      have hlv : rLive (zF σ 27 (μ.1 16 + 1)) (zrow (zF μ 16 (μ.1 16 + 1)) 1 (μ.2 9 (μ.2 19 r.toNat).toNat) (μ.2 20 r.toNat) 0 0 0) en (σ.2 18) (μ.1 16 + 1) (μ.2 20 r.toNat) := by
        have := rLive_next x4
        rw [show (zrow (zF μ 16 (μ.1 16 + 1)) 1 (μ.2 9 (μ.2 19 r.toNat).toNat) (μ.2 20 r.toNat) 0 0 0).2 20 ((zF μ 16 (μ.1 16 + 1)).1 18).toNat = μ.2 20 r.toNat from w20] at this
        exact this
      have hvm : rV (zrow (zF μ 16 (μ.1 16 + 1)) 1 (μ.2 9 (μ.2 19 r.toNat).toNat) (μ.2 20 r.toNat) 0 0 0) (μ.2 20 r.toNat) := ⟨m5.1, by rw [w0]; show _ < μ.1 18 + 1; omega, by rw [ho 18 (by omega) (by omega) _ hmlt]; exact m6.1⟩
      obtain ⟨y1, y2, y3, y4⟩ := rPu (q := μ.1 18) (m := μ.2 20 r.toNat) (l := 0) (p := en (μ.2 9 (μ.2 19 r.toNat).toNat)) (σ' := zch (zF σ 27 (μ.1 16 + 1)) (en (μ.2 9 (μ.2 19 r.toNat).toNat))) x1 x2 x3 (by decide) (by decide) hvm hsub hlk hlv
        (by have e : gup g ((zF μ 16 (μ.1 16 + 1)).1 18) (en (μ.2 9 (μ.2 19 r.toNat).toNat)) (g 1 (μ.2 20 r.toNat)) (g 2 (μ.2 20 r.toNat)) (g 3 (μ.2 20 r.toNat)) (g 4 (μ.2 20 r.toNat)) 3 (μ.1 18) = g 3 (μ.2 20 r.toNat) := gup_0.2.2.2.1
            show μ.1 19 ≤ μ.1 16 + 1 + gup g ((zF μ 16 (μ.1 16 + 1)).1 18) (en (μ.2 9 (μ.2 19 r.toNat).toNat)) (g 1 (μ.2 20 r.toNat)) (g 2 (μ.2 20 r.toNat)) (g 3 (μ.2 20 r.toNat)) (g 4 (μ.2 20 r.toNat)) 3 (μ.1 18)
            rw [e]; omega) (fun e => absurd e (by decide)) (fun _ => ⟨rfl, by
            rw [show gup g ((zF μ 16 (μ.1 16 + 1)).1 18) (en (μ.2 9 (μ.2 19 r.toNat).toNat)) (g 1 (μ.2 20 r.toNat)) (g 2 (μ.2 20 r.toNat)) (g 3 (μ.2 20 r.toNat)) (g 4 (μ.2 20 r.toNat)) 0 (μ.1 18) = en (μ.2 9 (μ.2 19 r.toNat).toNat) from gup_0.1]; exact zpx_rf, by
            rw [show gup g ((zF μ 16 (μ.1 16 + 1)).1 18) (en (μ.2 9 (μ.2 19 r.toNat).toNat)) (g 1 (μ.2 20 r.toNat)) (g 2 (μ.2 20 r.toNat)) (g 3 (μ.2 20 r.toNat)) (g 4 (μ.2 20 r.toNat)) 4 (μ.1 18) = g 4 (μ.2 20 r.toNat) from gup_0.2.2.2.2]
            show g 4 (μ.2 20 r.toNat) ≤ μ.1 11; omega, b3, x4, by
            rw [show gup g ((zF μ 16 (μ.1 16 + 1)).1 18) (en (μ.2 9 (μ.2 19 r.toNat).toNat)) (g 1 (μ.2 20 r.toNat)) (g 2 (μ.2 20 r.toNat)) (g 3 (μ.2 20 r.toNat)) (g 4 (μ.2 20 r.toNat)) 2 (μ.1 18) = g 2 (μ.2 20 r.toNat) from gup_0.2.2.1, if_neg (by rw [show (zrow (zF μ 16 (μ.1 16 + 1)) 1 (μ.2 9 (μ.2 19 r.toNat).toNat) (μ.2 20 r.toNat) 0 0 0).2 18 (μ.1 18).toNat = 1 from w18]; decide)]
            show σ.1 23 + 3 * g 2 (μ.2 20 r.toNat) + zps (σ.2 18) 20 ≤ 4 * (μ.1 16 + 1) + 0
            omega⟩)
      obtain ⟨w1, w2⟩ := main (zch (zF σ 27 (μ.1 16 + 1)) (en (μ.2 9 (μ.2 19 r.toNat).toNat))) (zpush (zrow (zF μ 16 (μ.1 16 + 1)) 1 (μ.2 9 (μ.2 19 r.toNat).toNat) (μ.2 20 r.toNat) 0 0 0) (μ.1 18) (μ.1 11) 0) _ y1 y2 y3 y4
        ((cutC_fr zch_fr (by simp) (by simp)).trans (cutC_fr (zfr_F (ks := [27]) (js := []) zfr_rf (by simp)) (by simp) (by simp))) ((cutM_fr zpush_fr (by simp) (by simp)).trans (zrow_cut.trans (cutM_fr (zfr_F (ks := [16]) (js := []) zfr_rf (by simp)) (by simp) (by simp)))) (fun j => gup_old j _ (by show _ < μ.1 18; omega)) rfl rfl (by show μ.1 16 + 1 = _; omega) rfl (Int.le_refl _) rfl rfl rfl rfl (by show μ.1 18 ≤ μ.1 18 + 1; omega) (Int.le_refl _) (Int.le_refl _) (ho 18 (by omega) (by omega) _ hmlt) (zfr_tr fC_27 fC_ch) (zfr_tr fM_16 (zfr_tr fM_row fM_push))
      have hcl := zP_11 (N := N) hp.1 hp.2 k1 (by omega) hF.1 hF.2.1 hC.1 (by omega)
      have := hbh _ (by omega) d1 d2
      rw [k2, if_neg hb, if_neg (by omega), hs27] at hcl
      have hml : zMod_perform N r μ = some (μ.1 18 + 1, zrow (zpush (zrow (zF μ 16 (μ.1 16 + 1)) 1 (μ.2 9 (μ.2 19 r.toNat).toNat) (μ.2 20 r.toNat) 0 0 0) (μ.1 18) (μ.1 11) 0) 2 (μ.2 7 (μ.2 19 r.toNat).toNat) (μ.2 20 r.toNat) 0 0 0) := by
        rw [zQ_1 hr.1 hR.2 ht n0 (by omega) (by omega), zrow_e hR0 (by omega)]
        simp only [Option.bind_some]
        rw [zpush_e (μ := zrow μ 1 _ _ 0 0 0) hN hP.1 (by show μ.1 19 < 16000; omega)]
        simp only [Option.bind_some]
        rw [zspend (σ := zpush (zrow μ 1 _ _ 0 0 0) _ _ 0) hfu N2 (by show μ.1 16 ≤ 10000; omega)]
        simp only [Option.bind_some, Int.reduceEq, if_false]
        rw [zpush_16, zrow_16]
        have e20 : (zpush (zrow (zF μ 16 (μ.1 16 + 1)) 1 (μ.2 9 (μ.2 19 r.toNat).toNat) (μ.2 20 r.toNat) 0 0 0) (μ.1 18) (μ.1 11) 0).2 20 r.toNat = μ.2 20 r.toNat := ho 20 (by omega) (by omega) r.toNat (by have := hr.2.1; have := hr.1; omega)
        refine (zrow_e (by show 0 ≤ μ.1 18 + 1; omega) (by show μ.1 18 + 1 < 90000; omega)).trans ?_
        show some (μ.1 18 + 1, zrow _ 2 _ ((zpush (zrow (zF μ 16 (μ.1 16 + 1)) 1 (μ.2 9 (μ.2 19 r.toNat).toNat) (μ.2 20 r.toNat) 0 0 0) (μ.1 18) (μ.1 11) 0).2 20 r.toNat) 0 0 0) = _
        rw [e20]
        rfl
      exact ⟨1, _, _, _, _, _, by omega, zCs_of hcl hp.1 (by have := (rBd w1).2.1; omega), zMs_of hml hr.1 hR.2 (by omega) (by omega), w1, zfr_tr fC_27 fC_ch, zfr_tr fM_16 (zfr_tr fM_row (zfr_tr fM_push fM_row)), w2⟩
end OW
