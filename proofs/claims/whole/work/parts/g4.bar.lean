section BA
variable {N : Nat} {σ μ : z_S} {G : Nat → Int → Int}
/-- the tail is a node of the class -/
theorem tail_bd (hn : pTn σ μ G) (hl : pTl σ μ G) : 0 ≤ σ.1 16 ∧ σ.1 16 < σ.1 4 ∧ 0 ≤ σ.1 15 ∧ σ.1 15 < σ.1 4 ∧ σ.1 15 = G 0 (μ.2 16 (μ.1 14).toNat) := by
  obtain ⟨⟨d0, d1, d2⟩, hlv, -, c15, c16⟩ := hl
  have hL := hlv (μ.1 14) d0 (Int.le_refl _)
  obtain ⟨q0, q1, q2, q3⟩ := qN_bd hL
  have hnq := hn.1 _ q0 q1
  have q2k : 2 ≤ μ.2 3 (qN μ (μ.1 14)).toNat := by
    rcases q3 with e | e
    · omega
    · have := (hnq.2.2.2.2.1 e).1.1.1; omega
  have hb := en_bd hnq q2k
  have hA := en_bd (hn.1 _ hL.1.1 hL.1.2.1) (by have := hL.1.2.2.1; omega)
  rw [← c16] at hb
  rw [← c15] at hA
  exact ⟨hb.2.2.1, hb.2.2.2.1, hA.1, hA.2.1, c15⟩
theorem zBar {a : Int} (hS : pS σ μ G a 0) (h19 : σ.1 19 = -1) (hal : a < μ.1 2) : tR σ μ (zReader_readBar N σ) (zMod_newAlternative N (zF μ 11 (a + 1))) (a + 1) := by
  obtain ⟨hx, hn, hl, ⟨ha, hma, h0, h1⟩, ⟨hs0, hw⟩, ⟨h5, hpm⟩, hB1, hB2, hB3, hB4, hB5⟩ := hS
  have h200 := hx.2.2.1
  obtain ⟨N1, N2, N3, N4, N5, N6, N7, N8⟩ := id hn.2.2.2.2.2
  obtain ⟨⟨d0, d1, d2⟩, hlv, hst, c15, c16⟩ := id hl
  obtain ⟨t1, t2, t3, t4, t5⟩ := tail_bd hn hl
  have hL := hlv (μ.1 14) d0 (Int.le_refl _)
  have iz : zin (a + 1) := ⟨by omega, by omega⟩
  -- the class
  have hcls : ∀ f, f = G 1 (μ.2 16 (μ.1 14).toNat) → ((zProgram_link N (σ.1 16) f σ).bind fun q36 => (zReader_beginAlternative N q36.2).bind fun q45 => (zRows_write N 3 (q36.2.1 15) (q45.2.1 15) q45.2).bind fun q60 => if zin ((q60.2.1 12) + 1) then some ((0 : Int), (zF q60.2 12 ((q60.2.1 12) + 1))) else none) = some (0, zF (zA (zF (zF (cNode (zA σ 2 (σ.1 16).toNat (G 1 (μ.2 16 (μ.1 14).toNat))) 11 (-1) 0) 15 (σ.1 4)) 16 (σ.1 4)) 3 (σ.1 15).toNat (σ.1 4)) 12 (a + 1)) := fun f hf => by
    rw [hf, cLink_e t1 (by omega)]
    simp only [Option.bind_some]
    rw [zReader_beginAlternative_u, cNode_e (σ := zA σ 2 (σ.1 16).toNat (G 1 (μ.2 16 (μ.1 14).toNat))) (by show 0 ≤ σ.1 4; omega) (by show σ.1 4 < 602; omega)]
    simp only [Option.bind_some]
    rw [show (zA σ 2 (σ.1 16).toNat (G 1 (μ.2 16 (μ.1 14).toNat))).1 15 = σ.1 15 from rfl, zrw (by decide) t3 (by show σ.1 15 < (602 : Int); omega)]
    simp only [Option.bind_some]
    rw [show (zA (zF (zF (cNode (zA σ 2 (σ.1 16).toNat (G 1 (μ.2 16 (μ.1 14).toNat))) 11 (-1) 0) 15 ((zA σ 2 (σ.1 16).toNat (G 1 (μ.2 16 (μ.1 14).toNat))).1 4)) 16 ((zA σ 2 (σ.1 16).toNat (G 1 (μ.2 16 (μ.1 14).toNat))).1 4)) 3 (σ.1 15).toNat ((zF (zF (cNode (zA σ 2 (σ.1 16).toNat (G 1 (μ.2 16 (μ.1 14).toNat))) 11 (-1) 0) 15 ((zA σ 2 (σ.1 16).toNat (G 1 (μ.2 16 (μ.1 14).toNat))).1 4)) 16 ((zA σ 2 (σ.1 16).toNat (G 1 (μ.2 16 (μ.1 14).toNat))).1 4)).1 15)).1 12 = a from ha, if_pos iz]
    rfl
  have hC : zReader_readBar N σ = some (0, zF (zA (zF (zF (cNode (zA σ 2 (σ.1 16).toNat (G 1 (μ.2 16 (μ.1 14).toNat))) 11 (-1) 0) 15 (σ.1 4)) 16 (σ.1 4)) 3 (σ.1 15).toNat (σ.1 4)) 12 (a + 1)) := by
    rw [zReader_readBar_u]
    by_cases c : σ.1 14 ≤ 0
    · rw [if_pos c]
      exact hcls 0 (hL.2.2.2.1 (by omega)).symm
    · rw [if_neg c, if_pos (show zin (σ.1 14 - 1) from ⟨by omega, by omega⟩), zrr (by decide) (by omega) (by show _ < (40 : Int); omega)]
      simp only [Option.bind_some]
      have hsk := (hst (μ.1 14 - 1) (by omega) (by omega)).1
      rw [show μ.1 14 - 1 + 1 = μ.1 14 by omega] at hsk
      have ho := hL.2.2.2.2 (by omega)
      have hbo := en_bd (hn.1 _ ho.1 ho.2.1) (by have := ho.2.2.1; omega)
      have e13 : σ.2 13 (σ.1 14 - 1).toNat = G 0 (μ.2 14 (μ.1 14).toNat) := by rw [d2]; exact hsk
      rw [e13, if_pos (show zin (G 0 (μ.2 14 (μ.1 14).toNat) + 1) from ⟨by omega, by omega⟩)]
      exact hcls _ ho.2.2.2.2.2.1.symm
  -- the reference
  have m2 := mNode_2 (μ := zF μ 11 (a + 1)) (k := 2) (a := 0) (b := 0) (c := 0)
  have hn8 : (zF μ 11 (a + 1)).1 8 = μ.1 8 := rfl
  rw [hn8] at m2
  have hC7 : (zA (mNode (zF μ 11 (a + 1)) 2 0 0 0) 16 (μ.1 14).toNat (μ.1 8)).2 7 (μ.2 15 (μ.1 14).toNat).toNat = μ.2 7 (μ.2 15 (μ.1 14).toNat).toNat := by
    show (mNode (zF μ 11 (a + 1)) 2 0 0 0).2 7 _ = _
    rw [m2, if_neg (by have := hL.2.1.1; have := hL.2.1.2.1; omega)]
    rfl
  have hC8 : (zA (mNode (zF μ 11 (a + 1)) 2 0 0 0) 16 (μ.1 14).toNat (μ.1 8)).2 8 (μ.2 15 (μ.1 14).toNat).toNat = μ.2 16 (μ.1 14).toNat := by
    show (mNode (zF μ 11 (a + 1)) 2 0 0 0).2 8 _ = _
    rw [m2, if_neg (by have := hL.2.1.1; have := hL.2.1.2.1; omega)]
    exact hL.2.1.2.2.2.1
  have hM : zMod_newAlternative N (zF μ 11 (a + 1)) = some (0, mAdd (zA (mNode (zF μ 11 (a + 1)) 2 0 0 0) 16 (μ.1 14).toNat (μ.1 8)) (μ.2 15 (μ.1 14).toNat) (μ.1 8)) := by
    rw [zMod_newAlternative_u, mNode_e (μ := zF μ 11 (a + 1)) (by show 0 ≤ μ.1 8; omega) (by show μ.1 8 < 1300; omega)]
    simp only [Option.bind_some]
    rw [if_pos (show zIn ((zF μ 11 (a + 1)).1 14) 41 from ⟨d0, by show μ.1 14 < 41; omega⟩), if_pos (show zIn ((mNode (zF μ 11 (a + 1)) 2 0 0 0).1 14) 41 from ⟨d0, by show μ.1 14 < 41; omega⟩)]
    have e15 : (mNode (zF μ 11 (a + 1)) 2 0 0 0).2 15 ((mNode (zF μ 11 (a + 1)) 2 0 0 0).1 14).toNat = μ.2 15 (μ.1 14).toNat := by
      rw [mNode_fr.2 15 (by simp)]; rfl
    have e16 : (zA (mNode (zF μ 11 (a + 1)) 2 0 0 0) 16 ((zF μ 11 (a + 1)).1 14).toNat ((zF μ 11 (a + 1)).1 8)).2 16 ((mNode (zF μ 11 (a + 1)) 2 0 0 0).1 14).toNat = μ.1 8 := by
      show zupd ((mNode (zF μ 11 (a + 1)) 2 0 0 0).2 16) (μ.1 14).toNat (μ.1 8) (μ.1 14).toNat = _
      rw [zupd_s]
    rw [e15, e16]
    show ((zMod_add N (μ.2 15 (μ.1 14).toNat) (μ.1 8) (zA (mNode (zF μ 11 (a + 1)) 2 0 0 0) 16 (μ.1 14).toNat (μ.1 8))).bind _) = _
    rw [mAdd_e hL.2.1.1 (by have := hL.2.1.2.1; omega) (fun _ => by rw [hC8]; exact ⟨hL.1.1, by have := hL.1.2.1; omega⟩)]
    rfl
  -- both
  have q2 := mAdd_2 (μ := zA (mNode (zF μ 11 (a + 1)) 2 0 0 0) 16 (μ.1 14).toNat (μ.1 8)) (a := μ.2 15 (μ.1 14).toNat) (t := μ.1 8)
  rw [hC7, hC8] at q2
  have hnn : ∀ i : Nat, (zA (mNode (zF μ 11 (a + 1)) 2 0 0 0) 16 (μ.1 14).toNat (μ.1 8)).2 16 i = if i = (μ.1 14).toNat then μ.1 8 else μ.2 16 i := fun i => by
    show zupd ((mNode (zF μ 11 (a + 1)) 2 0 0 0).2 16) (μ.1 14).toNat (μ.1 8) i = _
    rw [zupd_e, mNode_fr.2 16 (by simp)]; rfl
  have hno : ∀ j i : Nat, j ≠ 16 → (zA (mNode (zF μ 11 (a + 1)) 2 0 0 0) 16 (μ.1 14).toNat (μ.1 8)).2 j i = (mNode (zF μ 11 (a + 1)) 2 0 0 0).2 j i := fun j i hj => by rw [zA_2, if_neg hj]
  have hCn : (μ.2 15 (μ.1 14).toNat).toNat ≠ (μ.1 8).toNat := by have := hL.2.1.1; have := hL.2.1.2.1; omega
  have hAn : (μ.2 16 (μ.1 14).toNat).toNat ≠ (μ.1 8).toNat := by have := hL.1.1; have := hL.1.2.1; omega
  have hC0 := hL.2.1.2.2.2.2
  generalize hμ' : mAdd (zA (mNode (zF μ 11 (a + 1)) 2 0 0 0) 16 (μ.1 14).toNat (μ.1 8)) (μ.2 15 (μ.1 14).toNat) (μ.1 8) = μ' at *
  have v1 : ∀ j, j ≠ 8 → j ≠ 11 → μ'.1 j = μ.1 j := fun j h8 h11 => by
    rw [← hμ', mAdd_1]
    show (if j = 8 then _ else if j = 11 then _ else μ.1 j) = _
    rw [if_neg h8, if_neg h11]
  have v8 : μ'.1 8 = μ.1 8 + 1 := by rw [← hμ', mAdd_1]; rfl
  have v11 : μ'.1 11 = a + 1 := by rw [← hμ', mAdd_1]; rfl
  have fM : fPM μ μ' := by
    rw [← hμ']
    exact zfr_tr (zfr_A (zfr_tr (zfr_F zfr_rf (by simp)) (zfr_up mNode_fr (by simp) (by simp))) (by simp)) fPM_add
  have c2 := cNode_2 (σ := zA σ 2 (σ.1 16).toNat (G 1 (μ.2 16 (μ.1 14).toNat))) (k := 11) (x := -1) (y := 0)
  generalize hσ' : zF (zA (zF (zF (cNode (zA σ 2 (σ.1 16).toNat (G 1 (μ.2 16 (μ.1 14).toNat))) 11 (-1) 0) 15 (σ.1 4)) 16 (σ.1 4)) 3 (σ.1 15).toNat (σ.1 4)) 12 (a + 1) = σ' at *
  have s2 : ∀ j i : Nat, j ≠ 3 → σ'.2 j i = (cNode (zA σ 2 (σ.1 16).toNat (G 1 (μ.2 16 (μ.1 14).toNat))) 11 (-1) 0).2 j i := fun j i hj => by
    rw [← hσ']
    show (zA (zF (zF (cNode (zA σ 2 (σ.1 16).toNat (G 1 (μ.2 16 (μ.1 14).toNat))) 11 (-1) 0) 15 (σ.1 4)) 16 (σ.1 4)) 3 (σ.1 15).toNat (σ.1 4)).2 j i = _
    rw [zA_2, if_neg hj]
    rfl
  have s3 : ∀ i : Nat, σ'.2 3 i = if i = (σ.1 15).toNat then σ.1 4 else (cNode (zA σ 2 (σ.1 16).toNat (G 1 (μ.2 16 (μ.1 14).toNat))) 11 (-1) 0).2 3 i := fun i => by
    rw [← hσ']; rfl
  have u1 : ∀ j, j ≠ 4 → j ≠ 12 → j ≠ 15 → j ≠ 16 → σ'.1 j = σ.1 j := fun j h4 h12 h15 h16 => by
    rw [← hσ']
    show (if j = 12 then _ else if j = 16 then _ else if j = 15 then _ else if j = 4 then _ else σ.1 j) = _
    rw [if_neg h12, if_neg h16, if_neg h15, if_neg h4]
  have fC : fPC σ σ' := by
    rw [← hσ']
    exact zfr_F (zfr_A (zfr_F (zfr_F (zfr_tr (zfr_A zfr_rf (by simp)) (zfr_up cNode_fr (by simp) (by simp))) (by simp)) (by simp)) (by simp)) (by simp)
  have hP4 : (zA σ 2 (σ.1 16).toNat (G 1 (μ.2 16 (μ.1 14).toNat))).1 4 = σ.1 4 := rfl
  rw [hP4] at c2
  have T := tBar (σ' := σ') (μ' := μ') hn hl (fun i => by rw [s2 1 i (by omega), c2]; rfl) (fun i hi => by rw [s2 2 i (by omega), c2, if_neg hi]; rfl) (fun i => by
      rw [s3, c2]
      by_cases e : i = (σ.1 4).toNat
      · rw [if_neg (by omega), if_pos e, if_pos e]; rfl
      · rw [if_neg e, if_neg e]; rfl) (fun i hi => by rw [s2 4 i (by omega), c2, if_neg hi]; rfl) (fun j j1 j2 => by
      funext i
      rw [s2 j i (by omega), cNode_fr.2 j (by simp; omega), zA_2, if_neg (by omega)]) ⟨by rw [← hσ']; rfl, u1 6 (by omega) (by omega) (by omega) (by omega), u1 7 (by omega) (by omega) (by omega) (by omega), u1 8 (by omega) (by omega) (by omega) (by omega), u1 14 (by omega) (by omega) (by omega) (by omega), by rw [← hσ']; rfl, by rw [← hσ']; rfl⟩
    (fun j i j1 j2 h8 h9 hi => by rw [q2, if_neg (by omega), if_neg (by omega), if_neg (by omega), hno j i (by omega), m2, if_neg hi]; rfl)
    (fun i hi => by
      rw [q2]
      by_cases e : i = (μ.2 15 (μ.1 14).toNat).toNat
      · rw [if_pos ⟨rfl, e⟩, if_pos e]
      · rw [if_neg (fun z => e z.2), if_neg (by omega), if_neg (by omega), if_neg e, hno 8 i (by omega), m2, if_neg hi]; rfl)
    (fun i hi => by
      rw [q2, if_neg (by omega), if_neg (by omega)]
      by_cases e : i = (μ.2 16 (μ.1 14).toNat).toNat
      · rw [if_pos ⟨rfl, e, by omega⟩, if_pos e]
      · rw [if_neg (fun z => e z.2.1), if_neg e, hno 9 i (by omega), m2, if_neg hi]; rfl)
    ⟨by rw [q2, if_neg (by omega), if_neg (by omega), if_neg (by omega), hno 3 _ (by omega), m2, if_pos rfl]; rfl, by rw [q2, if_neg (by omega), if_neg (by omega), if_neg (by omega), hno 7 _ (by omega), m2, if_pos rfl]; rfl, by rw [q2, if_neg (by omega), if_neg (by omega), if_neg (by omega), hno 8 _ (by omega), m2, if_pos rfl]; rfl, by rw [q2, if_neg (by omega), if_neg (by omega), if_neg (by omega), hno 9 _ (by omega), m2, if_pos rfl]; rfl⟩
    (fun i => by rw [q2, if_neg (by omega), if_neg (by omega), if_neg (by omega), hnn])
    ⟨by funext i; rw [q2, if_neg (by omega), if_neg (by omega), if_neg (by omega), hno 14 i (by omega), mNode_fr.2 14 (by simp)]; rfl, by funext i; rw [q2, if_neg (by omega), if_neg (by omega), if_neg (by omega), hno 15 i (by omega), mNode_fr.2 15 (by simp)]; rfl⟩
    ⟨v8, v1 9 (by omega) (by omega), v1 14 (by omega) (by omega), v1 10 (by omega) (by omega)⟩
  refine ⟨0, 0, σ', μ', hC, hM, fC, fM, Or.inl ⟨_, a + 1, ⟨xL_mv hx (u1 11 (by omega) (by omega) (by omega) (by omega)) (fC.2 0 (by simp)) (v1 2 (by omega) (by omega)) (fM.2 1 (by simp)), T.1, T.2, ⟨by rw [← hσ']; rfl, v11, by omega, by rw [v1 2 (by omega) (by omega)]; omega⟩, ⟨by rw [u1 13 (by omega) (by omega) (by omega) (by omega)]; exact hs0, by rw [v1 12 (by omega) (by omega)]; exact hw⟩, ⟨by rw [u1 5 (by omega) (by omega) (by omega) (by omega), v1 10 (by omega) (by omega)]; exact h5, fun i hi => ?_⟩, ?_⟩, Int.le_refl _, by rw [u1 19 (by omega) (by omega) (by omega) (by omega)]; exact h19⟩⟩
  · rw [v1 10 (by omega) (by omega)] at hi
    have := hpm i hi
    have e5 : σ'.2 5 i = σ.2 5 i := by rw [s2 5 i (by omega), cNode_fr.2 5 (by simp)]; rfl
    have e6 : σ'.2 6 i = σ.2 6 i := by rw [s2 6 i (by omega), cNode_fr.2 6 (by simp)]; rfl
    have e12 : μ'.2 12 i = μ.2 12 i := by rw [q2, if_neg (by omega), if_neg (by omega), if_neg (by omega), hno 12 i (by omega), mNode_fr.2 12 (by simp)]; rfl
    have e13 : μ'.2 13 i = μ.2 13 i := by rw [q2, if_neg (by omega), if_neg (by omega), if_neg (by omega), hno 13 i (by omega), mNode_fr.2 13 (by simp)]; rfl
    unfold pMem at this ⊢
    rw [e5, e6, e12, e13]; exact this
  · unfold pB
    rw [u1 6 (by omega) (by omega) (by omega) (by omega), u1 7 (by omega) (by omega) (by omega) (by omega), v8, v1 14 (by omega) (by omega), v1 10 (by omega) (by omega), show σ'.1 4 = σ.1 4 + 1 by rw [← hσ']; rfl]
    omega
end BA
