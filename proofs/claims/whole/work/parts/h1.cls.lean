section CB
variable {N : Nat} {σ μ : z_S} {G : Nat → Int → Int}
theorem zBrk_1 (hN : 1000 ≤ N) {a c nt : Int} (hS : pS σ μ G a 0) (hal : a < μ.1 2) (hc : a + 1 ≤ c) (hc2 : c ≤ μ.1 2) (hnt : nt = 0 ∨ nt = 1) {Y : Option (Int × z_S)} (hT : zReader_readTerm N σ = (zReader_readClass_l56 N N nt (σ.1 5) (-1) 0 (zF σ 12 c)).bind fun q => some (0, q.2)) (hY : Y = zMod_aClass_l51 N N (μ.1 8) (mNode (zF μ 11 c) 6 (μ.1 10) 0 nt)) :
    tR σ μ (cT N σ) (Y.bind fun q => if (0 : Int) ≤ q.2.1 12 then some (0, q.2) else (zMod_quantify N q.1 q.2).bind fun q => some (0, q.2)) (a + 1) := by
  obtain ⟨hx, hn, hl, ⟨ha, hma, h0, h1⟩, ⟨hs0, hw⟩, ⟨h5, hpm⟩, hB1, hB2, hB3, hB4, hB5⟩ := id hS
  have h200 := hx.2.2.1
  obtain ⟨N1, N2, N3, N4, N5, N6, N7, N8⟩ := id hn.2.2.2.2.2
  obtain ⟨⟨d0, d1, d2⟩, -⟩ := id hl
  have m2 := mNode_2 (μ := zF μ 11 c) (k := 6) (a := μ.1 10) (b := 0) (c := nt)
  have hn8 : (zF μ 11 c).1 8 = μ.1 8 := rfl
  rw [hn8] at m2
  have fm0 : zfr [8, 11] [3, 4, 5, 6, 7, 8, 9, 10, 11] μ (mNode (zF μ 11 c) 6 (μ.1 10) 0 nt) := zfr_tr (zfr_F zfr_rf (by simp)) (zfr_up mNode_fr (by simp) (by simp))
  generalize hμ0 : mNode (zF μ 11 c) 6 (μ.1 10) 0 nt = μ0 at *
  have m8 : μ0.1 8 = μ.1 8 + 1 := by rw [← hμ0]; rfl
  have m11 : μ0.1 11 = c := by rw [← hμ0]; rfl
  have m10 : μ0.1 10 = μ.1 10 := fm0.1 10 (by simp)
  have m0s : μ0.1 2 = μ.1 2 := fm0.1 2 (by simp)
  have hR := zCls hN (x1 := nt) (x2 := σ.1 5) (nn := μ.1 8) (by omega) (by omega) (μ.1 2 - c).toNat (zF σ 12 c) μ0 c 0 N N (xL_mv hx rfl rfl m0s (fm0.2 1 (by simp))) rfl m11 (by omega) (by omega) hs0 (by rw [fm0.1 12 (by simp)]; exact hw) (by rw [m10]; exact h5) (by omega) (by omega) (fun i hi => by
    have := hpm i (by omega)
    unfold pMem at this ⊢
    rw [fm0.2 12 (by simp), fm0.2 13 (by simp)]; exact this) (by omega) (by omega) (by omega) (by omega) (by omega)
  rcases hR with ⟨σe, μe, b, q1, q2, q3, q4, q5, q6, q7, q8, q9, q10, q11, q12⟩ | ⟨σe, μe, q1, q2, q3, q4, q5, q6⟩
  · have s4 : σe.1 4 = σ.1 4 := q3.1 4 (by simp)
    have s8 : σe.1 8 = σ.1 8 := q3.1 8 (by simp)
    have t8 : μe.1 8 = μ.1 8 + 1 := by rw [q4.1 8 (by simp)]; exact m8
    rw [m10] at q8
    rw [m0s] at q11
    rw [q1, bnd_i, zAdA (σ := zF σe 12 (b + 1)) (by show 0 ≤ σe.1 4; omega) (by show σe.1 4 < 602; omega)] at hT
    simp only [Option.bind_some] at hT
    have e8 : (zF σe 12 (b + 1)).1 4 = σ.1 4 := s4
    have e8b : (zF σe 12 (b + 1)).1 8 = σ.1 8 := s8
    rw [e8, e8b] at hT
    rw [hY, q2]
    simp only [Option.bind_some]
    rw [if_neg (show ¬ (0 : Int) ≤ (zA (zF μe 11 (b + 1)) 5 (μ.1 8).toNat (μe.1 10)).1 12 by show ¬ (0 : Int) ≤ μe.1 12; omega)]
    have fc : fPC σ (zF σe 12 (b + 1)) := zfr_F (zfr_tr (zfr_F zfr_rf (k := 12) (v := c) (by simp)) (zfr_up q3 (by simp) (by simp))) (by simp)
    have c2 := cNode_2 (σ := zF σe 12 (b + 1)) (k := if nt = 0 then 4 else 5) (x := σ.1 5) (y := σe.1 5)
    rw [e8] at c2
    generalize hkc : (if nt = 0 then (4 : Int) else 5) = kc at *
    have r1 : (cNode (zF σe 12 (b + 1)) kc (σ.1 5) (σe.1 5)).2 1 (σ.1 4).toNat = kc := by rw [c2, if_pos rfl]; rfl
    have r3 : (cNode (zF σe 12 (b + 1)) kc (σ.1 5) (σe.1 5)).2 3 (σ.1 4).toNat = σ.1 5 := by rw [c2, if_pos rfl]; rfl
    have r4 : (cNode (zF σe 12 (b + 1)) kc (σ.1 5) (σe.1 5)).2 4 (σ.1 4).toNat = σe.1 5 := by rw [c2, if_pos rfl]; rfl
    have r1' : (zF (zF (zF (cNode (zF σe 12 (b + 1)) kc (σ.1 5) (σe.1 5)) 19 (σ.1 4)) 20 (σ.1 4)) 21 (σ.1 8)).2 = (cNode (zF σe 12 (b + 1)) kc (σ.1 5) (σe.1 5)).2 := rfl
    have fcn : fPC σ (cNode (zF σe 12 (b + 1)) kc (σ.1 5) (σe.1 5)) := zfr_tr fc (zfr_up cNode_fr (by simp) (by simp))
    have hMe : ∀ j i : Nat, 3 ≤ j → j ≤ 11 → (zA (zF μe 11 (b + 1)) 5 (μ.1 8).toNat (μe.1 10)).2 j i = if j = 5 ∧ i = (μ.1 8).toNat then μe.1 10 else μ0.2 j i := fun j i j1 j2 => by
      rw [zA_2]
      by_cases z : j = 5
      · rw [if_pos z, zupd_e]
        by_cases zi : i = (μ.1 8).toNat
        · rw [if_pos zi, if_pos ⟨z, zi⟩]
        · rw [if_neg zi, if_neg (fun q => zi q.2), z]
          show μe.2 5 i = _
          rw [q4.2 5 (by simp)]
      · rw [if_neg z, if_neg (fun q => z q.1)]
        show μe.2 j i = _
        rw [q4.2 j (by simp; omega)]
    have v3 : (zA (zF μe 11 (b + 1)) 5 (μ.1 8).toNat (μe.1 10)).2 3 (μ.1 8).toNat = 6 := by rw [hMe 3 _ (by omega) (by omega), if_neg (by omega), m2, if_pos rfl]; rfl
    have v4 : (zA (zF μe 11 (b + 1)) 5 (μ.1 8).toNat (μe.1 10)).2 4 (μ.1 8).toNat = μ.1 10 := by rw [hMe 4 _ (by omega) (by omega), if_neg (by omega), m2, if_pos rfl]; rfl
    have v5 : (zA (zF μe 11 (b + 1)) 5 (μ.1 8).toNat (μe.1 10)).2 5 (μ.1 8).toNat = μe.1 10 := by rw [hMe 5 _ (by omega) (by omega), if_pos ⟨rfl, rfl⟩]
    have v6 : (zA (zF μe 11 (b + 1)) 5 (μ.1 8).toNat (μe.1 10)).2 6 (μ.1 8).toNat = nt := by rw [hMe 6 _ (by omega) (by omega), if_neg (by omega), m2, if_pos rfl]; rfl
    have v9 : (zA (zF μe 11 (b + 1)) 5 (μ.1 8).toNat (μe.1 10)).2 9 (μ.1 8).toNat = -1 := by rw [hMe 9 _ (by omega) (by omega), if_neg (by omega), m2, if_pos rfl]; rfl
    have v10 : (zA (zF μe 11 (b + 1)) 5 (μ.1 8).toNat (μe.1 10)).2 10 (μ.1 8).toNat = μ.1 9 := by rw [hMe 10 _ (by omega) (by omega), if_neg (by omega), m2, if_pos rfl]; rfl
    have hst : ∀ j, 12 ≤ j → (zA (zF μe 11 (b + 1)) 5 (μ.1 8).toNat (μe.1 10)).2 j = μe.2 j := fun j hj => by rw [zA_2, if_neg (by omega)]; rfl
    refine cT_atom hT (show σe.1 13 = -1 from q5) (show σ.1 4 ≠ -1 by omega) (tR_b ?_)
    refine zLf hN (b := b + 1) hS (by omega) (by omega) (zfr_F (zfr_F (zfr_F fcn (by simp)) (by simp)) (by simp)) (zfr_A (zfr_F (zfr_tr (zfr_up fm0 (by simp) (by simp)) (zfr_up q4 (by simp) (by simp))) (by simp)) (by simp))
      (fun j i _ _ hi => by rw [r1', c2, if_neg hi]; show σe.2 j i = _; rw [q3.2 j (by simp; omega)]; rfl) (fun j j1 j2 => by rw [r1', cNode_fr.2 j (by simp; omega)]; show σe.2 j = _; rw [q3.2 j (by simp; omega)]; rfl)
      ⟨by show σe.1 4 + 1 = _; rw [s4], q3.1 6 (by simp), q3.1 7 (by simp), s8, q3.1 14 (by simp), q3.1 15 (by simp), q3.1 16 (by simp)⟩ ⟨q3.1 11 (by simp), rfl, q5, rfl, rfl, rfl⟩
      (fun j i j1 j2 hi => by rw [hMe j i j1 j2, if_neg (fun z => hi z.2), m2, if_neg hi]; rfl) (fun j j1 j2 => by rw [hst j (by omega), q4.2 j (by simp; omega), fm0.2 j (by simp; omega)])
      ⟨t8, ?_, ?_, q8⟩ ⟨rfl, q6, by show μe.1 10 ≤ b + 1; omega, v9, v10⟩ (by rw [v3]; decide) ?_ (fun z => by rw [v3] at z; omega) (fun z => ?_) ⟨q7, fun i hi => ?_⟩
    · show μe.1 9 = _
      rw [q4.1 9 (by simp), fm0.1 9 (by simp)]
    · show μe.1 14 = _
      rw [q4.1 14 (by simp), fm0.1 14 (by simp)]
    · unfold pTest
      rw [v3, v4, v5, v6, r1', r1, r3, r4]
      refine ⟨fun z => by omega, fun z => by omega, fun z => by omega, fun z => ⟨?_, h5, q7, by omega, q8, Int.le_refl _⟩, fun z => by omega, fun z => by omega, fun z => by omega, fun z => by omega, fun z => by omega⟩
      rcases hnt with e | e
      · rw [if_pos e] at hkc; exact Or.inl ⟨e, hkc.symm⟩
      · rw [if_neg (by omega)] at hkc; exact Or.inr ⟨e, hkc.symm⟩
    · rw [r1', r1] at z
      rcases hnt with e | e
      · rw [if_pos e] at hkc; omega
      · rw [if_neg (by omega)] at hkc; omega
    · have := q12 i hi
      unfold pMem at this ⊢
      rw [r1', cNode_fr.2 5 (by simp), cNode_fr.2 6 (by simp), hst 12 (by omega), hst 13 (by omega)]; exact this
  · rw [q1] at hT
    rw [hY, q2]
    simp only [Option.bind_some] at hT ⊢
    have t8 : μe.1 8 = μ.1 8 + 1 := by rw [q4.1 8 (by simp)]; exact m8
    rw [if_pos (by omega)]
    exact cT_done (X := some (0, σe)) hT ⟨0, 0, σe, μe, rfl, rfl, zfr_tr (zfr_F zfr_rf (k := 12) (v := c) (by simp)) (zfr_up q3 (by simp) (by simp)), zfr_tr (zfr_up fm0 (by simp) (by simp)) (zfr_up q4 (by simp) (by simp)), Or.inr ⟨q5, q6, by omega, by omega, q3.1 11 (by simp)⟩⟩
theorem zBrk (hN : 1000 ≤ N) {a : Int} (hS : pS σ μ G a 0) (hal : a < μ.1 2) (hT : zReader_readTerm N σ = (zReader_readClass N σ).bind fun q => some (0, q.2)) :
    tR σ μ (cT N σ) ((zMod_aClass N (zF μ 11 (a + 1))).bind fun q => if (0 : Int) ≤ q.2.1 12 then some (0, q.2) else (zMod_quantify N q.1 q.2).bind fun q => some (0, q.2)) (a + 1) := by
  obtain ⟨hx, hn, hl, ⟨ha, hma, h0, h1⟩, ⟨hs0, hw⟩, ⟨h5, hpm⟩, hB1, hB2, hB3, hB4, hB5⟩ := id hS
  have h200 := hx.2.2.1
  obtain ⟨N1, N2, N3, N4, N5, N6, N7, N8⟩ := id hn.2.2.2.2.2
  obtain ⟨⟨d0, d1, d2⟩, -⟩ := id hl
  have i1 : zin (a + 1) := ⟨by omega, by omega⟩
  have i2 : zin (a + 1 + 1) := ⟨by omega, by omega⟩
  have h10 : ((1 : Nat) = 0) = False := by simp
  have hub := uA_bd hx (a + 1)
  rw [zReader_readClass_u, ha, if_pos i1, zua (xL_mv hx rfl rfl rfl rfl : xL (zF σ 12 (a + 1)) μ)] at hT
  simp only [Option.bind_some, h10, if_false, if_true] at hT
  rw [show (zF σ 12 (a + 1)).1 12 = a + 1 from rfl, zF_F] at hT
  have hA : zMod_aClass N (zF μ 11 (a + 1)) = if uA μ (a + 1) = 94 then zMod_aClass_l51 N N (μ.1 8) (mNode (zF μ 11 (a + 1 + 1)) 6 (μ.1 10) 0 1) else zMod_aClass_l51 N N (μ.1 8) (mNode (zF μ 11 (a + 1)) 6 (μ.1 10) 0 0) := by
    rw [zMod_aClass_u, zse (xL_mv hx rfl rfl rfl rfl : xL σ (zF μ 11 (a + 1))) 0 (by show 0 ≤ a + 1 + 0; omega) (by show a + 1 + 0 < 1000; omega), uA_mv (μ' := zF μ 11 (a + 1)) (μ := μ) rfl rfl]
    simp only [Option.bind_some, h10, if_false, if_true]
    rw [show (zF μ 11 (a + 1)).1 11 = a + 1 from rfl, Int.add_zero, if_pos i2, zF_F]
    by_cases c : uA μ (a + 1) = 94
    · rw [if_pos c, if_pos c, mNode_e (μ := zF μ 11 (a + 1 + 1)) (by show 0 ≤ μ.1 8; omega) (by show μ.1 8 < 1300; omega)]
      rfl
    · rw [if_neg c, if_neg c, mNode_e (μ := zF μ 11 (a + 1)) (by show 0 ≤ μ.1 8; omega) (by show μ.1 8 < 1300; omega)]
      rfl
  by_cases c : uA μ (a + 1) = 94
  · have := (hub.2.2.mp (by omega)).2
    rw [if_pos c] at hA
    rw [if_pos c, if_pos i2] at hT
    exact zBrk_1 hN hS hal (c := a + 1 + 1) (by omega) (by omega) (Or.inr rfl) hT hA
  · rw [if_neg c] at hA hT
    exact zBrk_1 hN hS hal (c := a + 1) (by omega) (by omega) (Or.inl rfl) hT hA
end CB
