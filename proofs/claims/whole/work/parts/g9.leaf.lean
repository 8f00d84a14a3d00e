section LF
variable {N : Nat} {σ μ : z_S} {G : Nat → Int → Int}
theorem tR_b {X Y : Option (Int × z_S)} {b : Int} (h : tR σ μ X Y b) : tR σ μ X (Y.bind fun q => some (0, q.2)) b := by
  obtain ⟨x, y, σ', μ', e1, e2, e3⟩ := h
  exact ⟨x, 0, σ', μ', e1, by rw [e2]; rfl, e3⟩
/-- a unit, a set, any unit, a reference: as an atom -/
theorem zLf2 (hN : 1000 ≤ N) {a b kc xc yc km x y : Int} {σe μe : z_S} (hS : pS σ μ G a 0) (hb : a + 1 ≤ b) (hb2 : b ≤ μ.1 2) (fc : zfr [12, 13] [] σ σe) (fm : zfr [11, 12, 13] [] μ μe) (e12 : σe.1 12 = b) (e13 : σe.1 13 = -1) (m11 : μe.1 11 = b) (m12 : μe.1 12 = -1)
    (hk : 3 ≤ km ∧ km ≤ 7 ∧ km ≠ 6) (k3 : km = 3 → kc = 1 ∧ xc = x ∧ 0 ≤ x ∧ x ≤ 65535) (k4 : km = 4 → kc = 2) (k5 : km = 5 → kc = 3 ∧ xc = 65536 + x ∧ uLt x) (k7 : km = 7 → kc = 6 ∧ (xc = x ∨ (1000 < xc ∧ 1000 < x)) ∧ 1 ≤ x ∧ yc = y ∧ 0 ≤ y)
    (hT : zReader_readTerm N σ = some (0, zF (zF (zF (cNode σe kc xc yc) 19 (σe.1 4)) 20 (σe.1 4)) 21 (σe.1 8))) :
    tR σ μ (cT N σ) ((zMod_quantify N (μe.1 8) (mNode μe km x y 0)).bind fun q => some (0, q.2)) (a + 1) := by
  obtain ⟨hx, hn, hl, ⟨ha, hma, h0, h1⟩, ⟨hs0, hw⟩, ⟨h5, hpm⟩, hB1, hB2, hB3, hB4, hB5⟩ := id hS
  obtain ⟨N1, N2, N3, N4, N5, N6, N7, N8⟩ := id hn.2.2.2.2.2
  have s4 : σe.1 4 = σ.1 4 := fc.1 4 (by simp)
  have s8 : σe.1 8 = σ.1 8 := fc.1 8 (by simp)
  have t8 : μe.1 8 = μ.1 8 := fm.1 8 (by simp)
  have c2 := cNode_2 (σ := σe) (k := kc) (x := xc) (y := yc)
  have m2 := mNode_2 (μ := μe) (k := km) (a := x) (b := y) (c := 0)
  rw [s4] at c2
  rw [t8] at m2
  rw [s4, s8] at hT
  rw [t8]
  have q3 : (mNode μe km x y 0).2 3 (μ.1 8).toNat = km := by rw [m2, if_pos rfl]; rfl
  have q4 : (mNode μe km x y 0).2 4 (μ.1 8).toNat = x := by rw [m2, if_pos rfl]; rfl
  have q5 : (mNode μe km x y 0).2 5 (μ.1 8).toNat = y := by rw [m2, if_pos rfl]; rfl
  have q9 : (mNode μe km x y 0).2 9 (μ.1 8).toNat = -1 := by rw [m2, if_pos rfl]; rfl
  have q10 : (mNode μe km x y 0).2 10 (μ.1 8).toNat = μ.1 9 := by rw [m2, if_pos rfl]; exact fm.1 9 (by simp)
  have r1 : (cNode σe kc xc yc).2 1 (σ.1 4).toNat = kc := by rw [c2, if_pos rfl]; rfl
  have r3 : (cNode σe kc xc yc).2 3 (σ.1 4).toNat = xc := by rw [c2, if_pos rfl]; rfl
  have r4 : (cNode σe kc xc yc).2 4 (σ.1 4).toNat = yc := by rw [c2, if_pos rfl]; rfl
  have r1' : (zF (zF (zF (cNode σe kc xc yc) 19 (σ.1 4)) 20 (σ.1 4)) 21 (σ.1 8)).2 = (cNode σe kc xc yc).2 := rfl
  have fcn : fPC σ (cNode σe kc xc yc) := zfr_tr (zfr_up fc (by simp) (by simp)) (zfr_up cNode_fr (by simp) (by simp))
  refine cT_atom hT (show (cNode σe kc xc yc).1 13 = -1 from e13) (show σ.1 4 ≠ -1 by omega) (tR_b ?_)
  refine zLf hN (b := b) hS hb hb2 (zfr_F (zfr_F (zfr_F fcn (by simp)) (by simp)) (by simp)) (zfr_tr (zfr_up fm (by simp) (by simp)) (zfr_up mNode_fr (by simp) (by simp)))
    (fun j i _ _ hi => by rw [r1', c2, if_neg hi, fc.2 j (by simp)]) (fun j j1 j2 => by rw [r1', cNode_fr.2 j (by simp; omega), fc.2 j (by simp)])
    ⟨by show σe.1 4 + 1 = _; rw [s4], fc.1 6 (by simp), fc.1 7 (by simp), s8, fc.1 14 (by simp), fc.1 15 (by simp), fc.1 16 (by simp)⟩ ⟨fc.1 11 (by simp), e12, e13, rfl, rfl, rfl⟩
    (fun j i _ _ hi => by rw [m2, if_neg hi, fm.2 j (by simp)]) (fun j j1 j2 => by rw [mNode_fr.2 j (by simp; omega), fm.2 j (by simp)])
    ⟨by show μe.1 8 + 1 = _; rw [t8], fm.1 9 (by simp), fm.1 14 (by simp), by show μ.1 10 ≤ μe.1 10; rw [fm.1 10 (by simp)]; omega⟩ ⟨m11, m12, by show μe.1 10 ≤ b; rw [fm.1 10 (by simp)]; omega, q9, q10⟩ (by rw [q3]; omega) ?_ (fun z => ?_) (fun z => ?_) ⟨by show σe.1 5 = μe.1 10; rw [fc.1 5 (by simp), fm.1 10 (by simp)]; exact h5, fun i hi => ?_⟩
  · unfold pTest
    rw [q3, q4, q5, r1', r1, r3, r4]
    refine ⟨fun z => k3 z, k4, k5, fun z => by omega, fun z => ⟨(k7 z).1, (k7 z).2.1, (k7 z).2.2.1, (k7 z).2.2.2.2⟩, fun z => by omega, fun z => by omega, fun z => by omega, fun z => by omega⟩
  · rw [q3] at z
    rw [r1', r4, q5]; exact (k7 z).2.2.2.1
  · rw [r1', r1] at z
    rw [q3]
    by_cases z3 : km = 3
    · have := (k3 z3).1; omega
    by_cases z4 : km = 4
    · have := k4 z4; omega
    by_cases z5 : km = 5
    · have := (k5 z5).1; omega
    omega
  · have hi' : (i : Int) < μ.1 10 := by
      have : (mNode μe km x y 0).1 10 = μ.1 10 := fm.1 10 (by simp)
      rw [this] at hi; exact hi
    have := hpm i hi'
    unfold pMem at this ⊢
    rw [r1', cNode_fr.2 5 (by simp), cNode_fr.2 6 (by simp), fc.2 5 (by simp), fc.2 6 (by simp), mNode_fr.2 12 (by simp), mNode_fr.2 13 (by simp), fm.2 12 (by simp), fm.2 13 (by simp)]; exact this
end LF
