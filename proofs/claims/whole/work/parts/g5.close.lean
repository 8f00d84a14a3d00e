section CZ
variable {N : Nat} {σ μ : z_S} {G : Nat → Int → Int}
theorem pT_gt {O v : Int} (hn : pTn σ μ G) (hl : pTl σ μ G) (h0 : 0 ≤ O) (hk : μ.2 3 O.toNat ≠ 16) : pTn σ (zA μ 11 O.toNat v) G ∧ pTl σ (zA μ 11 O.toNat v) G := by
  refine ⟨pTn_gen (T := -1) hn ⟨Int.le_refl _, Int.le_refl _, Int.le_refl _, Int.le_refl _, Int.le_refl _, Int.le_refl _⟩ ⟨hn.2.2.2.2.2.2.2.2.2.1, hn.2.2.2.2.2.2.2.2.2.2.2.1⟩ (fun m _ _ => ⟨rfl, rfl, rfl, fun _ => rfl, fun _ => rfl, id, id⟩) (fun _ _ _ => rfl) (fun _ _ _ => ⟨rfl, fun _ => rfl⟩) (fun _ _ _ _ _ => rfl) (fun _ _ _ => rfl) (fun _ _ _ => rfl) (fun n n0 n1 => Or.inr ⟨⟨rfl, rfl, rfl, rfl, rfl, fun z => ⟨rfl, ?_⟩⟩, ⟨id, id, fun _ => id⟩, fun p p0 p1 _ => ⟨fun _ => by omega, rfl, rfl⟩, fun z => ?_⟩) (fun n n0 n1 => absurd n1 (by show ¬ n < μ.1 8; omega)) (fun h => by omega) (fun p p0 p1 => by omega) (fun n n0 n1 => absurd n1 (by show ¬ n < μ.1 8; omega)), hl⟩
  · show zupd (μ.2 11) O.toNat v n.toNat = _
    rw [zupd_n]
    intro e
    rw [e] at z; exact hk z
  · have hfr := ((hn.1 n n0 n1).2.2.2.2.2.2 z).1.2.2.2.2.2.1
    have := en_bd (hn.1 _ hfr.1 hfr.2.1) (by omega)
    omega
theorem zClo (hN : 1000 ≤ N) {a : Int} (hS : pS σ μ G a 0) (h19 : σ.1 19 = -1) (hal : a < μ.1 2) (hd : 1 ≤ μ.1 14) :
    tR σ μ (zReader_readClosing N σ) (zMod_closeGroup N μ) (a + 1) ∨ ∃ σ1, zReader_readClosing N σ = some (0, σ1) ∧ σ1.1 13 = -1 ∧ σ1.1 19 ≠ -1 ∧ tR σ μ (zReader_appendAtom N σ1) (zMod_closeGroup N μ) (a + 1) := by
  obtain ⟨hx, hn, hl, ⟨ha, hma, h0, h1⟩, ⟨hs0, hw⟩, ⟨h5, hpm⟩, hB1, hB2, hB3, hB4, hB5⟩ := hS
  have h200 := hx.2.2.1
  obtain ⟨N1, N2, N3, N4, N5, N6, N7, N8⟩ := id hn.2.2.2.2.2
  obtain ⟨⟨d0, d1, d2⟩, hlv, hst, c15, c16⟩ := id hl
  obtain ⟨t1, t2, t3, t4, t5⟩ := tail_bd hn hl
  have hL := hlv (μ.1 14) d0 (Int.le_refl _)
  obtain ⟨o1, o2, o3, o4, o5, o6, o7, o8⟩ := hL.2.2.2.2 hd
  have hbo := en_bd (hn.1 _ o1 o2) (by omega)
  have hpar := (hn.1 _ o1 o2).2.2.2.2.2.1 o3 o4
  obtain ⟨k1, k2, k3, k4, k5, k6⟩ := hst (μ.1 14 - 1) (by omega) (by omega)
  rw [show μ.1 14 - 1 + 1 = μ.1 14 by omega] at k1 k4 k5 k6
  generalize hO : μ.2 14 (μ.1 14).toNat = O at *
  have hpxO : pex μ (G 0) O = G 0 O + 1 := by unfold pex; rw [if_pos ⟨o3, o4⟩]
  rw [hpxO] at hbo
  have iz : zin (a + 1) := ⟨by omega, by omega⟩
  have io : zin (G 0 O + 1) := ⟨by omega, by omega⟩
  -- the class
  have hcl : ∀ σd, σd = zF (zF (zF (zA (zF σ 14 (μ.1 14 - 1)) 2 (σ.1 16).toNat (G 0 O + 1)) 16 (σ.2 14 (μ.1 14 - 1).toNat)) 15 (σ.2 15 (μ.1 14 - 1).toNat)) 12 (a + 1) → zReader_readClosing N σ = if μ.2 3 O.toNat = 14 ∨ μ.2 3 O.toNat = 15 then (zReader_append N (G 0 O) (G 0 O + 1) σd).bind fun q => some (0, q.2) else some (0, zF (zF (zF σd 19 (G 0 O)) 20 (G 0 O + 1)) 21 (μ.2 10 O.toNat)) := fun σd hσd => by
    rw [zReader_readClosing_u, if_neg (by omega), d2, if_pos (show zin (μ.1 14 - 1) from ⟨by omega, by omega⟩), zrr (by decide) (by omega) (by show μ.1 14 - 1 < (40 : Int); omega)]
    simp only [Option.bind_some]
    rw [show (zF σ 14 (μ.1 14 - 1)).2 13 (μ.1 14 - 1).toNat = G 0 O from k1, if_pos io, show (zF σ 14 (μ.1 14 - 1)).1 16 = σ.1 16 from rfl, cLink_e t1 (by omega)]
    simp only [Option.bind_some]
    rw [show (zA (zF σ 14 (μ.1 14 - 1)) 2 (σ.1 16).toNat (G 0 O + 1)).1 14 = μ.1 14 - 1 from rfl, zrr (by decide) (by omega) (by show μ.1 14 - 1 < (40 : Int); omega)]
    simp only [Option.bind_some]
    rw [show (zA (zF σ 14 (μ.1 14 - 1)) 2 (σ.1 16).toNat (G 0 O + 1)).1 14 = μ.1 14 - 1 from rfl, zrr (by decide) (by omega) (by show μ.1 14 - 1 < (40 : Int); omega)]
    simp only [Option.bind_some]
    rw [show (zF (zA (zF σ 14 (μ.1 14 - 1)) 2 (σ.1 16).toNat (G 0 O + 1)) 16 ((zA (zF σ 14 (μ.1 14 - 1)) 2 (σ.1 16).toNat (G 0 O + 1)).2 14 (μ.1 14 - 1).toNat)).1 12 = a from ha, if_pos iz]
    show ((zRows_read N 1 (G 0 O) (zF (zF (zF (zA (zF σ 14 (μ.1 14 - 1)) 2 (σ.1 16).toNat (G 0 O + 1)) 16 (σ.2 14 (μ.1 14 - 1).toNat)) 15 (σ.2 15 (μ.1 14 - 1).toNat)) 12 (a + 1))).bind _) = _
    rw [← hσd, zrr (by decide) (by omega) (by show G 0 O < (602 : Int); omega)]
    simp only [Option.bind_some]
    have hkind : σd.2 1 (G 0 O).toNat = 2 * μ.2 3 O.toNat - 9 := by rw [hσd]; exact hpar.1
    rw [hkind]
    by_cases c14 : μ.2 3 O.toNat = 14
    · rw [if_pos (by omega), if_pos io, if_pos (Or.inl c14)]
    · by_cases c15 : μ.2 3 O.toNat = 15
      · rw [if_neg (by omega), if_pos (by omega), if_pos io, if_pos (Or.inr c15)]
      · rw [if_neg (by omega), if_neg (by omega), if_neg (by omega)]
        have hd14 : σd.1 14 = μ.1 14 - 1 := by rw [hσd]; rfl
        rw [hd14, zrr (by decide) (by omega) (by show μ.1 14 - 1 < (40 : Int); omega)]
        simp only [Option.bind_some]
        rw [if_pos io, zReader_holdAtom_u]
        have h16 : σd.2 16 (μ.1 14 - 1).toNat = μ.2 10 O.toNat := by rw [hσd]; exact k4
        rw [h16]
        rfl
  have hcl := hcl _ rfl
  generalize hσd : zF (zF (zF (zA (zF σ 14 (μ.1 14 - 1)) 2 (σ.1 16).toNat (G 0 O + 1)) 16 (σ.2 14 (μ.1 14 - 1).toNat)) 15 (σ.2 15 (μ.1 14 - 1).toNat)) 12 (a + 1) = σd at hcl
  have fC : fPC σ σd := by rw [← hσd]; exact zfr_F (zfr_F (zfr_F (zfr_A (zfr_F zfr_rf (by simp)) (by simp)) (by simp)) (by simp)) (by simp)
  have u1 : ∀ j, j ≠ 12 → j ≠ 14 → j ≠ 15 → j ≠ 16 → σd.1 j = σ.1 j := fun j h12 h14 h15 h16 => by
    rw [← hσd]
    show (if j = 12 then _ else if j = 15 then _ else if j = 16 then _ else if j = 14 then _ else σ.1 j) = _
    rw [if_neg h12, if_neg h15, if_neg h16, if_neg h14]
  have u2 : ∀ j, j ≠ 2 → σd.2 j = σ.2 j := fun j hj => by
    rw [← hσd]
    show (zA (zF σ 14 (μ.1 14 - 1)) 2 (σ.1 16).toNat (G 0 O + 1)).2 j = _
    rw [zA_2, if_neg hj]; rfl
  have w12 : σd.1 12 = a + 1 := by rw [← hσd]; rfl
  obtain ⟨T1, T2⟩ := tClose (σ' := σd) (μ' := zF (zF μ 14 (μ.1 14 - 1)) 11 (a + 1)) hn hl hd (fun i => by rw [← hσd, hO]; rfl) (fun j i _ _ hj => by rw [u2 j hj]) ⟨u1 4 (by omega) (by omega) (by omega) (by omega), u1 6 (by omega) (by omega) (by omega) (by omega), u1 7 (by omega) (by omega) (by omega) (by omega), u1 8 (by omega) (by omega) (by omega) (by omega), by rw [← hσd]; rfl, by rw [← hσd]; rfl, by rw [← hσd]; rfl⟩ (fun _ _ _ => rfl) ⟨rfl, rfl, rfl, rfl⟩
  have hS1 : pS σd (zF (zF μ 14 (μ.1 14 - 1)) 11 (a + 1)) G (a + 1) 1 := by
    refine ⟨xL_mv hx (u1 11 (by omega) (by omega) (by omega) (by omega)) (u2 0 (by omega)) rfl rfl, T1, T2, ⟨w12, rfl, by omega, by show a + 1 ≤ μ.1 2; omega⟩, ⟨by rw [u1 13 (by omega) (by omega) (by omega) (by omega)]; exact hs0, hw⟩, ⟨by rw [u1 5 (by omega) (by omega) (by omega) (by omega)]; exact h5, fun i hi => ?_⟩, ?_⟩
    · have := hpm i hi
      unfold pMem at this ⊢
      rw [u2 5 (by omega), u2 6 (by omega)]; exact this
    · unfold pB
      rw [u1 4 (by omega) (by omega) (by omega) (by omega), u1 6 (by omega) (by omega) (by omega) (by omega), u1 7 (by omega) (by omega) (by omega) (by omega)]
      show σ.1 4 + 1 ≤ 2 * (a + 1) + 2 + (μ.1 14 - 1) ∧ μ.1 8 + 1 ≤ 2 * (a + 1) + 2 + (μ.1 14 - 1) ∧ 2 * σ.1 6 + 1 ≤ a + 1 ∧ 4 * σ.1 7 ≤ a + 1 + (μ.1 14 - 1) ∧ μ.1 10 ≤ a + 1
      omega
  -- the reference
  have hml : zMod_closeGroup N μ = if μ.2 3 O.toNat = 14 ∨ μ.2 3 O.toNat = 15 then (zMod_add N (μ.2 16 (μ.1 14 - 1).toNat) O (zA (zF (zF μ 14 (μ.1 14 - 1)) 11 (a + 1)) 11 O.toNat (μ.1 9))).bind fun q => some (0, q.2) else (zMod_quantify N O (zF (zF μ 14 (μ.1 14 - 1)) 11 (a + 1))).bind fun q => some (0, q.2) := by
    have i1 : zIn (μ.1 14) 41 := ⟨d0, by omega⟩
    have i2 : zIn O 1300 := ⟨o1, by omega⟩
    have i3 : zin (μ.1 14 - 1) := ⟨by omega, by omega⟩
    have i4 : zIn ((zF (zF μ 14 (μ.1 14 - 1)) 11 (a + 1)).1 14) 41 := ⟨by show 0 ≤ μ.1 14 - 1; omega, by show μ.1 14 - 1 < 41; omega⟩
    rw [zMod_closeGroup_u, if_pos i1, hO, if_pos i2, hma]
    by_cases c14 : μ.2 3 O.toNat = 14
    · rw [if_pos c14, if_pos i3, if_pos iz, if_pos i2, if_pos i4, if_pos (Or.inl c14)]
      rfl
    · rw [if_neg c14, if_pos i3, if_pos iz, if_pos i2]
      by_cases c15 : μ.2 3 O.toNat = 15
      · rw [if_pos (show (zF (zF μ 14 (μ.1 14 - 1)) 11 (a + 1)).2 3 O.toNat = 15 from c15), if_pos i2, if_pos i4, if_pos (Or.inr c15)]
        rfl
      · rw [if_neg (show ¬ (zF (zF μ 14 (μ.1 14 - 1)) 11 (a + 1)).2 3 O.toNat = 15 from c15), if_neg (fun z => by rcases z with z | z; exact c14 z; exact c15 z)]
  by_cases cl : μ.2 3 O.toNat = 14 ∨ μ.2 3 O.toNat = 15
  · -- a look
    left
    rw [if_pos cl] at hcl hml
    obtain ⟨D1, D2⟩ := pT_gt (v := μ.1 9) T1 T2 o1 (by show μ.2 3 O.toNat ≠ 16; omega)
    have hS2 : pS σd (zA (zF (zF μ 14 (μ.1 14 - 1)) 11 (a + 1)) 11 O.toNat (μ.1 9)) G (a + 1) 1 := ⟨hS1.1, D1, D2, hS1.2.2.2⟩
    obtain ⟨a1, a2, a3, a4⟩ := pS_app (N := N) hS2 (by omega) (t := O) o1 o2 (by show 3 ≤ μ.2 3 O.toNat; omega) o7 (by show G 2 O = μ.1 14 - 1 + 1; omega) o8
    have hpx2 : pex (zA (zF (zF μ 14 (μ.1 14 - 1)) 11 (a + 1)) 11 O.toNat (μ.1 9)) (G 0) O = G 0 O + 1 := hpxO
    rw [hpx2] at a1 a4
    rw [a1] at hcl
    change zMod_add N (μ.2 16 (μ.1 14 - 1).toNat) O _ = _ at a2
    rw [a2] at hml
    refine ⟨0, 0, _, _, hcl, hml, zfr_tr fC fPC_app, zfr_tr (zfr_A (zfr_F (zfr_F zfr_rf (k := 14) (v := μ.1 14 - 1) (by simp)) (k := 11) (v := a + 1) (by simp)) (a := 11) (i := O.toNat) (v := μ.1 9) (by simp)) fPM_add, Or.inl ⟨_, a + 1, pS_mv a4 zfr_rf zfr_rf a4.2.2.2.1.1 a4.2.2.2.1.2.1 (Int.le_refl _) a4.2.2.2.1.2.2.2 (by omega), Int.le_refl _, ?_⟩⟩
    show σd.1 19 = -1
    rw [u1 19 (by omega) (by omega) (by omega) (by omega)]; exact h19
  · -- an atom
    right
    rw [if_neg cl] at hcl hml
    refine ⟨_, hcl, by show σd.1 13 = -1; rw [u1 13 (by omega) (by omega) (by omega) (by omega)]; exact hs0, by show G 0 O ≠ -1; omega, ?_⟩
    have hS3 : pS (zF (zF (zF σd 19 (G 0 O)) 20 (G 0 O + 1)) 21 (μ.2 10 O.toNat)) (zF (zF μ 14 (μ.1 14 - 1)) 11 (a + 1)) G (a + 1) 1 := pS_mv hS1 (zfr_F (zfr_F (zfr_F zfr_rf (by simp)) (by simp)) (by simp)) zfr_rf w12 rfl (Int.le_refl _) (by show a + 1 ≤ μ.1 2; omega) (by omega)
    have hgf : 0 ≤ μ.2 10 O.toNat ∧ μ.2 10 O.toNat ≤ 20 := ⟨k5, k6⟩
    have hT := zAtom (N := N) hN hS3 o1 o2 (by show (3 ≤ μ.2 3 O.toNat ∧ _) ∨ μ.2 3 O.toNat = 12 ∨ μ.2 3 O.toNat = 13; omega) o7 (by show G 2 O = μ.1 14 - 1 + 1; omega) o8 rfl (by rw [show pex (zF (zF μ 14 (μ.1 14 - 1)) 11 (a + 1)) (G 0) O = G 0 O + 1 from hpxO]; rfl) rfl hgf
    rw [hml]
    have hT2 := tR_tr (σ := σ) (μ := μ) (b0 := a + 1) hT (zfr_F (zfr_F (zfr_F fC (by simp)) (by simp)) (by simp)) (zfr_F (zfr_F zfr_rf (by simp)) (by simp)) (u1 11 (by omega) (by omega) (by omega) (by omega)) (Int.le_refl _)
    obtain ⟨x, y, σ', μ', e1, e2, e3⟩ := hT2
    exact ⟨x, 0, σ', μ', e1, by rw [e2]; rfl, e3⟩
end CZ
