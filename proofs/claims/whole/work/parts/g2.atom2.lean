section AU
variable {N : Nat} {σ μ : z_S} {G : Nat → Int → Int}
theorem cRep3_1 (j : Nat) : (cRep3 σ).1 j = if j = 4 then σ.1 4 + 1 + 1 + 1 else if j = 6 then σ.1 6 + 1 else σ.1 j := by
  unfold cRep3
  rw [cNode_1]
  by_cases e : j = 4
  · rw [if_pos e, if_pos e]; rfl
  · rw [if_neg e, if_neg e, cNode_1, if_neg e, cNode_1, if_neg e]; rfl
theorem cRep3_2 (h0 : 0 ≤ σ.1 4) (j i : Nat) (hj : 1 ≤ j ∧ j ≤ 4) : (cRep3 σ).2 j i = if i = (σ.1 4 + 2).toNat then (if j = 1 then 14 else if j = 2 then 0 else if j = 3 then σ.1 6 else 0) else if i = (σ.1 4 + 1).toNat then (if j = 1 then 13 else if j = 2 then 0 else if j = 3 then σ.1 6 else 0) else if i = (σ.1 4).toNat then (if j = 1 then 12 else if j = 2 then 0 else if j = 3 then σ.1 6 else 0) else σ.2 j i := by
  unfold cRep3
  rw [cNode_2, cNode_2, cNode_2]
  have e2 : (cNode (cNode (zF σ 6 (σ.1 6 + 1)) 12 (σ.1 6) 0) 13 (σ.1 6) 0).1 4 = σ.1 4 + 2 := by show σ.1 4 + 1 + 1 = _; omega
  have e1 : (cNode (zF σ 6 (σ.1 6 + 1)) 12 (σ.1 6) 0).1 4 = σ.1 4 + 1 := rfl
  have e0 : (zF σ 6 (σ.1 6 + 1)).1 4 = σ.1 4 := rfl
  rw [e2, e1, e0]
  have hc : j = 1 ∨ j = 2 ∨ j = 3 ∨ j = 4 := by omega
  rcases hc with e | e | e | e <;> subst e <;> rfl
theorem cRep_1 {lz : Int} : (cRep σ lz).1 = (cRep3 σ).1 := rfl
theorem cRep_2j {lz : Int} (j : Nat) (hj : j ≠ 2) (h7 : ¬ (7 ≤ j ∧ j ≤ 12)) : (cRep σ lz).2 j = (cRep3 σ).2 j := by
  unfold cRep
  simp only [zA_2]
  rw [if_neg (by omega), if_neg (by omega), if_neg (by omega), if_neg (by omega), if_neg (by omega), if_neg (by omega), if_neg hj, if_neg hj]
theorem cRep_22 {lz : Int} (i : Nat) : (cRep σ lz).2 2 i = if i = (σ.1 20).toNat then σ.1 4 + 2 else if i = (σ.1 4 + 1).toNat then σ.1 19 else (cRep3 σ).2 2 i := rfl
theorem cRep3_hi (j : Nat) (hj : 5 ≤ j) : (cRep3 σ).2 j = σ.2 j := by
  have h : zfr [4, 6] [1, 2, 3, 4] σ (cRep3 σ) := by
    unfold cRep3
    exact zfr_tr (zfr_tr (zfr_tr (zfr_F zfr_rf (by simp)) (zfr_up cNode_fr (by simp) (by simp))) (zfr_up cNode_fr (by simp) (by simp))) (zfr_up cNode_fr (by simp) (by simp))
  exact h.2 j (by simp; omega)
theorem cRep_fr {lz : Int} : fPC σ (cRep σ lz) := by
  have h : fPC σ (cRep3 σ) := by
    unfold cRep3
    exact zfr_tr (zfr_tr (zfr_tr (zfr_F zfr_rf (by simp)) (zfr_up cNode_fr (by simp) (by simp))) (zfr_up cNode_fr (by simp) (by simp))) (zfr_up cNode_fr (by simp) (by simp))
  unfold cRep
  exact zfr_A (zfr_A (zfr_A (zfr_A (zfr_A (zfr_A (zfr_A (zfr_A h (by simp)) (by simp)) (by simp)) (by simp)) (by simp)) (by simp)) (by simp)) (by simp)
theorem mRep_2 {t lo hi lz : Int} (h8 : 0 ≤ μ.1 8) (j i : Nat) : (mRep μ t lo hi lz).2 j i = if i = (μ.1 8).toNat then (if j = 3 then 16 else if j = 4 then lo else if j = 5 then hi else if j = 6 then lz else if j = 7 then t else if j = 8 then t else if j = 9 then -1 else if j = 10 then μ.2 10 t.toNat else if j = 11 then μ.1 9 else μ.2 j i) else μ.2 j i := by
  have h7 : (zA (zA (mNode μ 16 lo hi lz) 10 (μ.1 8).toNat (μ.2 10 t.toNat)) 11 (μ.1 8).toNat (μ.1 9)).2 7 (μ.1 8).toNat = -1 := by
    show (mNode μ 16 lo hi lz).2 7 (μ.1 8).toNat = -1
    rw [mNode_2, if_pos rfl]; rfl
  unfold mRep
  rw [mAdd_2, h7]
  have h10 : (zA (zA (mNode μ 16 lo hi lz) 10 (μ.1 8).toNat (μ.2 10 t.toNat)) 11 (μ.1 8).toNat (μ.1 9)).2 j i = if j = 11 then zupd ((mNode μ 16 lo hi lz).2 11) (μ.1 8).toNat (μ.1 9) i else if j = 10 then zupd ((mNode μ 16 lo hi lz).2 10) (μ.1 8).toNat (μ.2 10 t.toNat) i else (mNode μ 16 lo hi lz).2 j i := by
    rw [zA_2]
    by_cases e11 : j = 11
    · rw [if_pos e11, if_pos e11]; rfl
    · rw [if_neg e11, if_neg e11, zA_2]
      by_cases e10 : j = 10
      · rw [if_pos e10, if_pos e10]
      · rw [if_neg e10, if_neg e10]
  rw [h10, mNode_2, zupd_e, zupd_e, mNode_2, mNode_2]
  by_cases e : i = (μ.1 8).toNat
  · simp only [if_pos e]
    by_cases e8 : j = 8
    · subst e8; simp [e]
    · by_cases e7 : j = 7
      · subst e7; simp [e]
      · by_cases e11 : j = 11
        · subst e11; simp
        · by_cases e10 : j = 10
          · subst e10; simp
          · simp [e7, e8, e10, e11]
  · simp only [if_neg e]
    rw [if_neg (fun z => e z.2), if_neg (fun z => e z.2.1), if_neg (fun z => z.2.2 (by decide))]
    by_cases e11 : j = 11
    · subst e11; simp
    · by_cases e10 : j = 10
      · subst e10; simp
      · simp [e10, e11]
/-- a repetition made by both -/
theorem zRepd {b k t lo hi lz : Int} (hx : xL σ μ) (hn : pTn σ μ G) (hl : pTl σ μ G) (t0 : 0 ≤ t) (t1 : t < μ.1 8) (tk : (3 ≤ μ.2 3 t.toNat ∧ μ.2 3 t.toNat ≤ 7) ∨ μ.2 3 t.toNat = 12 ∨ μ.2 3 t.toNat = 13) (t7 : G 7 t ≠ 1) (tlv : G 2 t = μ.1 14 + 1)
    (h19 : σ.1 19 = G 0 t) (h20 : σ.1 20 = pex μ (G 0) t) (h21 : σ.1 21 = μ.2 10 t.toNat) (hgf : 0 ≤ μ.2 10 t.toNat ∧ μ.2 10 t.toNat ≤ 20) (h6 : σ.1 6 < 100) (hlo : pBnd (σ.1 17) lo) (hhi : pBnd (σ.1 18) hi) (hb : 0 ≤ lo ∧ lo ≤ 1000000 ∧ 0 ≤ hi ∧ hi ≤ 1000000) (hlz : lz = 0 ∨ lz = 1) :
    ∃ G', pTn (cRep σ lz) (mRep μ t lo hi lz) G' ∧ pTl (cRep σ lz) (mRep μ t lo hi lz) G' ∧ G' 7 (μ.1 8) ≠ 1 ∧ G' 2 (μ.1 8) = μ.1 14 + 1 ∧ G' 0 (μ.1 8) = σ.1 4 ∧ ∀ m, 0 ≤ m → m < μ.1 8 → G' 0 m = G 0 m := by
  obtain ⟨N1, N2, N3, N4, N5, N6, N7, N8⟩ := id hn.2.2.2.2.2
  obtain ⟨y1, y2, y3, y4, y5, y6⟩ := en_bd (hn.1 t t0 t1) (by omega)
  have r7 : (cRep σ lz).2 7 = zupd (σ.2 7) (σ.1 6).toNat (σ.1 17) := by
    show zupd ((cRep3 σ).2 7) _ _ = _; rw [cRep3_hi 7 (by omega)]
  have r8 : (cRep σ lz).2 8 = zupd (σ.2 8) (σ.1 6).toNat (σ.1 18) := by
    show zupd ((cRep3 σ).2 8) _ _ = _; rw [cRep3_hi 8 (by omega)]
  have r9 : (cRep σ lz).2 9 = zupd (σ.2 9) (σ.1 6).toNat lz := by
    show zupd ((cRep3 σ).2 9) _ _ = _; rw [cRep3_hi 9 (by omega)]
  have r10 : (cRep σ lz).2 10 = zupd (σ.2 10) (σ.1 6).toNat (σ.1 21) := by
    show zupd ((cRep3 σ).2 10) _ _ = _; rw [cRep3_hi 10 (by omega)]
  have r11 : (cRep σ lz).2 11 = zupd (σ.2 11) (σ.1 6).toNat (σ.1 8) := by
    show zupd ((cRep3 σ).2 11) _ _ = _; rw [cRep3_hi 11 (by omega)]
  have r12 : (cRep σ lz).2 12 = zupd (σ.2 12) (σ.1 6).toNat (σ.1 4) := by
    show zupd ((cRep3 σ).2 12) _ _ = _; rw [cRep3_hi 12 (by omega)]
  have m2 := mRep_2 (μ := μ) (t := t) (lo := lo) (hi := hi) (lz := lz) (by omega)
  have c4 : (cRep σ lz).1 4 = σ.1 4 + 3 := by rw [cRep_1, cRep3_1, if_pos rfl]; omega
  have c6 : (cRep σ lz).1 6 = σ.1 6 + 1 := by rw [cRep_1, cRep3_1]; rfl
  have co : ∀ j, j ≠ 4 → j ≠ 6 → (cRep σ lz).1 j = σ.1 j := fun j h4 h6 => by rw [cRep_1, cRep3_1, if_neg h4, if_neg h6]
  have cj : ∀ (j : Nat) i, j = 1 ∨ j = 3 ∨ j = 4 → (cRep σ lz).2 j i = (cRep3 σ).2 j i := fun j i hj => by rw [cRep_2j j (by omega) (by omega)]
  refine tRep (t := t) hn hl t0 t1 tk t7 tlv h6 (fun p p0 p1 => ⟨?_, fun z => ?_, ?_, ?_⟩) ?_ ⟨?_, ?_, ?_, ?_, ?_, ?_, ?_⟩ (fun j j1 j2 i hi => ?_) (fun j j1 j2 => ?_) ⟨c4, c6, co 7 (by omega) (by omega), co 8 (by omega) (by omega), co 14 (by omega) (by omega), co 15 (by omega) (by omega), co 16 (by omega) (by omega)⟩ (fun j i _ _ hi => by rw [m2, if_neg hi]) (fun j j1 j2 => ?_) ⟨by rw [mRep_1]; rfl, by rw [mRep_1]; rfl, by rw [mRep_1]; rfl, by rw [mRep_1]; rfl⟩ ⟨by rw [m2, if_pos rfl]; rfl, by rw [m2, if_pos rfl]; rfl⟩ ?_
  · rw [cj 1 _ (by omega), cRep3_2 (by omega) 1 _ (by omega), if_neg (by omega), if_neg (by omega), if_neg (by omega)]
  · rw [cRep_22, if_neg (by omega), if_neg (by omega), cRep3_2 (by omega) 2 _ (by omega), if_neg (by omega), if_neg (by omega), if_neg (by omega)]
  · rw [cj 3 _ (by omega), cRep3_2 (by omega) 3 _ (by omega), if_neg (by omega), if_neg (by omega), if_neg (by omega)]
  · rw [cj 4 _ (by omega), cRep3_2 (by omega) 4 _ (by omega), if_neg (by omega), if_neg (by omega), if_neg (by omega)]
  · rw [cRep_22, if_pos (by rw [h20])]
  · rw [cj 1 _ (by omega), cRep3_2 (by omega) 1 _ (by omega), if_neg (by omega), if_neg (by omega), if_pos rfl]; rfl
  · rw [cj 1 _ (by omega), cRep3_2 (by omega) 1 _ (by omega), if_neg (by omega), if_pos rfl]; rfl
  · rw [cj 1 _ (by omega), cRep3_2 (by omega) 1 _ (by omega), if_pos rfl]; rfl
  · rw [cj 3 _ (by omega), cRep3_2 (by omega) 3 _ (by omega), if_neg (by omega), if_neg (by omega), if_pos rfl]; rfl
  · rw [cj 3 _ (by omega), cRep3_2 (by omega) 3 _ (by omega), if_neg (by omega), if_pos rfl]; rfl
  · rw [cj 3 _ (by omega), cRep3_2 (by omega) 3 _ (by omega), if_pos rfl]; rfl
  · rw [cRep_22, if_neg (by rw [h20]; omega), if_pos rfl]; exact h19
  · have hne : i ≠ (σ.1 6).toNat := by omega
    have hc : j = 7 ∨ j = 8 ∨ j = 9 ∨ j = 10 ∨ j = 11 ∨ j = 12 := by omega
    rcases hc with e | e | e | e | e | e <;> subst e
    · rw [r7, zupd_n hne]
    · rw [r8, zupd_n hne]
    · rw [r9, zupd_n hne]
    · rw [r10, zupd_n hne]
    · rw [r11, zupd_n hne]
    · rw [r12, zupd_n hne]
  · rw [cRep_2j j (by omega) (by omega), cRep3_hi j (by omega)]
  · exact mRep_fr.2 j (by simp; omega)
  · have u4 : (mRep μ t lo hi lz).2 4 (μ.1 8).toNat = lo := by rw [m2, if_pos rfl]; rfl
    have u5 : (mRep μ t lo hi lz).2 5 (μ.1 8).toNat = hi := by rw [m2, if_pos rfl]; rfl
    have u6 : (mRep μ t lo hi lz).2 6 (μ.1 8).toNat = lz := by rw [m2, if_pos rfl]; rfl
    have u10 : (mRep μ t lo hi lz).2 10 (μ.1 8).toNat = μ.2 10 t.toNat := by rw [m2, if_pos rfl]; rfl
    have u11 : (mRep μ t lo hi lz).2 11 (μ.1 8).toNat = μ.1 9 := by rw [m2, if_pos rfl]; rfl
    rw [u4, u5, u6, u10, u11, r7, r8, r9, r10, r11, r12, zupd_s, zupd_s, zupd_s, zupd_s, zupd_s, zupd_s]
    exact ⟨⟨hb.1, hlo, hb.2.2.1, hb.2.2.2, hb.2.1, hhi⟩, ⟨rfl, hlz⟩, ⟨h21, N5, hgf.1, N7, hgf.2⟩, rfl⟩
/-- an atom, its quantifier, its place -/
theorem zAtom (hN : 1000 ≤ N) {b t : Int} (hS : pS σ μ G b 1) (t0 : 0 ≤ t) (t1 : t < μ.1 8) (tk : (3 ≤ μ.2 3 t.toNat ∧ μ.2 3 t.toNat ≤ 7) ∨ μ.2 3 t.toNat = 12 ∨ μ.2 3 t.toNat = 13) (t7 : G 7 t ≠ 1) (tlv : G 2 t = μ.1 14 + 1) (tb : μ.2 9 t.toNat < 0)
    (h19 : σ.1 19 = G 0 t) (h20 : σ.1 20 = pex μ (G 0) t) (h21 : σ.1 21 = μ.2 10 t.toNat) (hgf : 0 ≤ μ.2 10 t.toNat ∧ μ.2 10 t.toNat ≤ 20) : tR σ μ (zReader_appendAtom N σ) (zMod_quantify N t μ) b := by
  obtain ⟨hx, hn, hl, ⟨ha, hm, h0, h1⟩, ⟨hs, hw⟩, ⟨h5, hpm⟩, hB1, hB2, hB3, hB4, hB5⟩ := id hS
  have h200 := hx.2.2.1
  obtain ⟨N1, N2, N3, N4, N5, N6, N7, N8⟩ := id hn.2.2.2.2.2
  obtain ⟨⟨d0, d1, d2⟩, -⟩ := id hl
  obtain ⟨y1, y2, y3, y4, y5, y6⟩ := en_bd (hn.1 t t0 t1) (by omega)
  rcases zQnt (N := N) (t := t) hN hx ha hm h0 h1 hs hw with ⟨e1, e2⟩ | ⟨σ1, lo2, hi2, b1, e1, e2, e3, e4, e5, e6, e7, e8, e9, e10, e11, e12⟩ | ⟨σ1, lo2, hi2, μ1, e1, e2, e3, e4, e5, e6, e7, e8⟩
  · -- no quantifier
    obtain ⟨a1, a2, a3, a4⟩ := pS_app (N := N) hS (by omega) t0 t1 (by omega) t7 tlv tb
    refine ⟨0, 0, zF (zF (zA σ 2 (σ.1 16).toNat (G 0 t)) 16 (pex μ (G 0) t)) 19 (-1), mAdd μ (μ.2 16 (μ.1 14).toNat) t, ?_, ?_, zfr_F fPC_app (by simp), fPM_add, Or.inl ⟨Ga G t (G 1 (μ.2 16 (μ.1 14).toNat)), b, ?_, Int.le_refl _, rfl⟩⟩
    · rw [zReader_appendAtom_u, e1]
      simp only [Option.bind_some, if_true]
      rw [h19, h20, a1]
      rfl
    · rw [e2]
      unfold zMod_quantify_b350 zMod_quantify_b357 zMod_quantify_b371
      rw [if_neg (by omega), if_pos a3, a2]
      rfl
    · exact pS_mv a4 (zfr_F zfr_rf (by simp)) zfr_rf ha (by rw [mAdd_1]; exact hm) (Int.le_refl _) (by rw [mAdd_1]; exact h1) (by omega)
  · -- a right one
    have hu1 : uA (zF μ 11 b1) = uA μ := uA_mv rfl rfl
    have hx1 : xL σ1 (zF μ 11 b1) := xL_mv hx (e3.1 11 (by simp)) (e3.2 0 (by simp)) rfl rfl
    have hx1' : xL σ1 μ := xL_mv hx (e3.1 11 (by simp)) (e3.2 0 (by simp)) rfl rfl
    have k4 : σ1.1 4 = σ.1 4 := e3.1 4 (by simp)
    have k6 : σ1.1 6 = σ.1 6 := e3.1 6 (by simp)
    have k19 : σ1.1 19 = G 0 t := by rw [e3.1 19 (by simp)]; exact h19
    have k20 : σ1.1 20 = pex μ (G 0) t := by rw [e3.1 20 (by simp)]; exact h20
    have k21 : σ1.1 21 = μ.2 10 t.toNat := by rw [e3.1 21 (by simp)]; exact h21
    have hrep := cRep_e (N := N) (σ := σ1) (μ := μ) hx1' (by omega) (by omega) (by omega) (by omega) (by omega) (by omega) (by omega) e4 (by omega) (by omega)
    have h269 := q269 (N := N) (σ := σ1) (μ := zF μ 11 b1) (t := t) (lo := lo2) (hi := hi2) hx1 (by show 0 ≤ b1; omega) (by show b1 ≤ 500; omega) (by show 0 ≤ μ.1 8; omega) (by show μ.1 8 < 1300; omega) t0 t1
    rw [hu1, show (zF μ 11 b1).1 11 = b1 from rfl] at h269
    -- both behind a question mark
    have key : ∀ (σ2 μ2 : z_S) (b2 lz : Int), zfr [12] [] σ1 σ2 → zfr [11] [] μ μ2 → σ2.1 12 = b2 → μ2.1 11 = b2 → b1 ≤ b2 → b2 ≤ μ.1 2 → lz = 0 ∨ lz = 1 → zReader_appendRepetition N σ1 = ((zReader_append N (σ1.1 4) (σ1.1 4) (cRep σ2 lz)).bind fun q => some (0, q.2)) → zMod_quantify N t μ = zMod_quantify_b350 N (μ.1 8) (mRep μ2 t lo2 hi2 lz) → tR σ μ (zReader_appendAtom N σ) (zMod_quantify N t μ) b := by
      intro σ2 μ2 b2 lz f1 f2 g1 g2 g3 g4 g5 hC hM
      have c2 : zfr [12, 17, 18] [] σ σ2 := zfr_tr e3 (zfr_up f1 (by simp) (by simp))
      obtain ⟨T1, T2⟩ := pT_mv (cutE_fr c2 (by simp) (by simp)) (cutP_fr f2 (by simp) (by simp)) hn hl
      have hx2 : xL σ2 μ2 := xL_mv hx (c2.1 11 (by simp)) (c2.2 0 (by simp)) (f2.1 2 (by simp)) (f2.2 1 (by simp))
      have w8 : μ2.1 8 = μ.1 8 := f2.1 8 (by simp)
      have w14 : μ2.1 14 = μ.1 14 := f2.1 14 (by simp)
      have w3 : μ2.2 3 = μ.2 3 := f2.2 3 (by simp)
      have w10 : μ2.2 10 = μ.2 10 := f2.2 10 (by simp)
      have hpx : pex μ2 (G 0) t = pex μ (G 0) t := by unfold pex; rw [w3]
      have z4 : σ2.1 4 = σ.1 4 := c2.1 4 (by simp)
      have z6 : σ2.1 6 = σ.1 6 := c2.1 6 (by simp)
      obtain ⟨G', D1, D2, D3, D4, D5, D6⟩ := zRepd (b := b2) (k := 0) (lo := lo2) (hi := hi2) (lz := lz) hx2 T1 T2 t0 (by rw [w8]; exact t1) (by rw [w3]; exact tk) t7 (by rw [w14]; exact tlv) (by rw [f1.1 19 (by simp)]; exact k19) (by rw [hpx, f1.1 20 (by simp)]; exact k20) (by rw [w10, f1.1 21 (by simp)]; exact k21) (by rw [w10]; exact hgf) (by omega) (by rw [f1.1 17 (by simp)]; exact e5) (by rw [f1.1 18 (by simp)]; exact e6) ⟨e7, e8, e9, e10⟩ g5
      rw [w8] at D3 D4 D5 D6
      rw [w14] at D4
      have x4 : (cRep σ2 lz).1 4 = σ2.1 4 + 3 := by rw [cRep_1, cRep3_1, if_pos rfl]; omega
      have x6 : (cRep σ2 lz).1 6 = σ2.1 6 + 1 := by rw [cRep_1, cRep3_1]; rfl
      have xo : ∀ j, j ≠ 4 → j ≠ 6 → (cRep σ2 lz).1 j = σ2.1 j := fun j h4 h6 => by rw [cRep_1, cRep3_1, if_neg h4, if_neg h6]
      have v8 : (mRep μ2 t lo2 hi2 lz).1 8 = μ2.1 8 + 1 := by rw [mRep_1]; rfl
      have vo : ∀ j, j ≠ 8 → (mRep μ2 t lo2 hi2 lz).1 j = μ2.1 j := fun j h => by rw [mRep_1, if_neg h]
      have hS2 : pS (cRep σ2 lz) (mRep μ2 t lo2 hi2 lz) G' b2 0 := by
        refine ⟨xL_mv hx2 (xo 11 (by omega) (by omega)) (cRep_fr.2 0 (by simp)) (vo 2 (by omega)) (mRep_fr.2 1 (by simp)), D1, D2, ⟨by rw [xo 12 (by omega) (by omega)]; exact g1, by rw [vo 11 (by omega)]; exact g2, by omega, by rw [vo 2 (by omega), f2.1 2 (by simp)]; exact g4⟩, ⟨by rw [xo 13 (by omega) (by omega), c2.1 13 (by simp)]; exact hs, by rw [vo 12 (by omega), f2.1 12 (by simp)]; exact hw⟩, ⟨by rw [xo 5 (by omega) (by omega), vo 10 (by omega), c2.1 5 (by simp), f2.1 10 (by simp)]; exact h5, fun i hi => ?_⟩, ?_⟩
        · rw [vo 10 (by omega), f2.1 10 (by simp)] at hi
          have := hpm i hi
          unfold pMem at this ⊢
          rw [cRep_2j 5 (by omega) (by omega), cRep_2j 6 (by omega) (by omega), cRep3_hi 5 (by omega), cRep3_hi 6 (by omega), mRep_fr.2 12 (by simp), mRep_fr.2 13 (by simp), c2.2 5 (by simp), c2.2 6 (by simp), f2.2 12 (by simp), f2.2 13 (by simp)]
          exact this
        · unfold pB
          rw [x4, x6, v8, vo 14 (by omega), vo 10 (by omega), xo 7 (by omega) (by omega), w14, w8, z4, z6, f2.1 10 (by simp), c2.1 7 (by simp)]
          omega
      have m2 := mRep_2 (μ := μ2) (t := t) (lo := lo2) (hi := hi2) (lz := lz) (by omega)
      have n3 : (mRep μ2 t lo2 hi2 lz).2 3 (μ.1 8).toNat = 16 := by rw [m2, w8, if_pos rfl]; rfl
      have n9 : (mRep μ2 t lo2 hi2 lz).2 9 (μ.1 8).toNat = -1 := by rw [m2, w8, if_pos rfl]; rfl
      have npx : pex (mRep μ2 t lo2 hi2 lz) (G' 0) (μ.1 8) = σ.1 4 := by unfold pex; rw [n3, if_neg (by omega), D5, z4]
      obtain ⟨a1, a2, a3, a4⟩ := pS_app (N := N) hS2 (by omega) (t := μ.1 8) (by omega) (by rw [v8]; omega) (by rw [n3]; omega) D3 (by rw [vo 14 (by omega), w14]; exact D4) (by rw [n9]; omega)
      rw [D5, npx, z4] at a1 a4
      generalize hσ3 : zF (zA (cRep σ2 lz) 2 ((cRep σ2 lz).1 16).toNat (σ.1 4)) 16 (σ.1 4) = σ3 at a1 a4
      generalize hμ3 : mAdd (mRep μ2 t lo2 hi2 lz) ((mRep μ2 t lo2 hi2 lz).2 16 ((mRep μ2 t lo2 hi2 lz).1 14).toNat) (μ.1 8) = μ3 at a2 a4
      refine ⟨0, 0, zF σ3 19 (-1), μ3, ?_, ?_, zfr_F (zfr_tr (zfr_tr (zfr_up c2 (by simp) (by simp)) cRep_fr) (by rw [← hσ3]; exact fPC_app)) (by simp), zfr_tr (zfr_tr (zfr_up f2 (by simp) (by simp)) (zfr_up mRep_fr (by simp) (by simp))) (by rw [← hμ3]; exact fPM_add), Or.inl ⟨_, b2, pS_mv a4 (zfr_F zfr_rf (by simp)) zfr_rf (by rw [zF_1, if_neg (by decide)]; exact a4.2.2.2.1.1) a4.2.2.2.1.2.1 (Int.le_refl _) a4.2.2.2.1.2.2.2 (by omega), by omega, rfl⟩⟩
      · rw [zReader_appendAtom_u, e1]
        simp only [Option.bind_some, Int.reduceEq, if_false]
        rw [hC, k4, a1]
        rfl
      · rw [hM]
        unfold zMod_quantify_b350 zMod_quantify_b357 zMod_quantify_b371
        rw [if_neg (by rw [vo 12 (by omega), f2.1 12 (by simp)]; omega), if_pos a3, a2]
        rfl
    by_cases c : uA μ b1 = 63
    · rw [if_pos c, if_pos c] at hrep h269
      have hbl : b1 < μ.1 2 := ((uA_bd hx b1).2.2.mp (by omega)).2
      exact key (zF σ1 12 (b1 + 1)) (zF (zF μ 11 b1) 11 (b1 + 1)) (b1 + 1) 1 (zfr_F zfr_rf (by simp)) (zfr_F (zfr_F zfr_rf (by simp)) (by simp)) rfl rfl (by omega) (by omega) (Or.inr rfl) hrep (by rw [e2]; exact h269)
    · rw [if_neg c, if_neg c] at hrep h269
      exact key σ1 (zF μ 11 b1) b1 0 zfr_rf (zfr_F zfr_rf (by simp)) e4 rfl (Int.le_refl _) e12 (Or.inl rfl) hrep (by rw [e2]; exact h269)
  · -- a wrong one
    have hx1 : xL σ1 μ1 := xL_mv hx (e3.1 11 (by simp)) (e3.2 0 (by simp)) (e4.1 2 (by simp)) (e4.2 1 (by simp))
    have w8 : μ1.1 8 = μ.1 8 := e4.1 8 (by simp)
    have h269 := q269 (N := N) (σ := σ1) (μ := μ1) (t := t) (lo := lo2) (hi := hi2) hx1 e7 (by omega) (by omega) (by omega) t0 (by omega)
    obtain ⟨a1, a2, a3, a4⟩ := pS_app (N := N) hS (by omega) t0 t1 (by omega) t7 tlv tb
    have hcapp : zReader_append N (G 0 t) (pex μ (G 0) t) σ1 = some (0, zF (zA σ1 2 (σ1.1 16).toNat (G 0 t)) 16 (pex μ (G 0) t)) := by
      rw [zReader_append_u, e3.1 16 (by simp)]
      obtain ⟨-, hlv, -, -, c16⟩ := hl
      have hL := hlv (μ.1 14) d0 (Int.le_refl _)
      obtain ⟨q0, q1, q2, q3⟩ := qN_bd hL
      have hnq := hn.1 _ q0 q1
      have q2k : 2 ≤ μ.2 3 (qN μ (μ.1 14)).toNat := by
        rcases q3 with e | e
        · omega
        · have := (hnq.2.2.2.2.1 e).1.1.1; omega
      have hb := en_bd hnq q2k
      rw [← c16] at hb
      rw [cLink_e hb.2.2.1 (by omega)]
      rfl
    have hxx : zfr [11] [] μ1 (if uA μ1 (μ1.1 11) = 63 then zF μ1 11 (μ1.1 11 + 1) else μ1) := by
      split
      · exact zfr_F zfr_rf (by simp)
      · exact zfr_rf
    generalize (if uA μ1 (μ1.1 11) = 63 then zF μ1 11 (μ1.1 11 + 1) else μ1) = μx at hxx h269
    generalize (if uA μ1 (μ1.1 11) = 63 then (1 : Int) else 0) = lz at h269
    have x12 : μx.1 12 = μ1.1 12 := hxx.1 12 (by simp)
    have x8 : μx.1 8 = μ1.1 8 := hxx.1 8 (by simp)
    refine ⟨0, 0, zF (zF (zA σ1 2 (σ1.1 16).toNat (G 0 t)) 16 (pex μ (G 0) t)) 19 (-1), mRep μx t lo2 hi2 lz, ?_, ?_, zfr_F (zfr_tr (zfr_up e3 (by simp) (by simp)) fPC_app) (by simp), zfr_tr (zfr_tr (zfr_up e4 (by simp) (by simp)) (zfr_up hxx (by simp) (by simp))) (zfr_up mRep_fr (by simp) (by simp)), Or.inr ⟨e5, ?_, ?_, ?_, e3.1 11 (by simp)⟩⟩
    · rw [zReader_appendAtom_u, e1]
      simp only [Option.bind_some, if_true]
      rw [e3.1 19 (by simp), e3.1 20 (by simp), h19, h20, hcapp]
      rfl
    · rw [e2, h269]
      unfold zMod_quantify_b350 zMod_quantify_b371
      rw [if_pos (by rw [mRep_1, if_neg (by decide)]; omega)]
    · rw [mRep_1, if_neg (by decide), x12]; exact e6
    · rw [mRep_1, if_pos rfl]; omega
    · rw [mRep_1, if_pos rfl]; omega
end AU
