section ST
variable {N : Nat} {σ μ : z_S}
def G00 : Nat → Int → Int := fun k _ => if k = 0 ∨ k = 2 ∨ k = 3 then 1 else 0
theorem pS_0 (hx : xL σ μ) (c4 : σ.1 4 = 2) (c5 : σ.1 5 = 0) (c6 : σ.1 6 = 0) (c7 : σ.1 7 = 0) (c8 : σ.1 8 = 0) (c12 : σ.1 12 = 0) (c13 : σ.1 13 = -1) (c14 : σ.1 14 = 0) (c15 : σ.1 15 = 1) (c16 : σ.1 16 = 1) (a10 : σ.2 1 0 = 0) (a11 : σ.2 1 1 = 11) (a31 : σ.2 3 1 = -1)
    (m8 : μ.1 8 = 2) (m9 : μ.1 9 = 0) (m10 : μ.1 10 = 0) (m11 : μ.1 11 = 0) (m12 : μ.1 12 = -1) (m14 : μ.1 14 = 0) (k30 : μ.2 3 0 = 1) (k31 : μ.2 3 1 = 2) (k70 : μ.2 7 0 = 1) (k80 : μ.2 8 0 = 1) (k71 : μ.2 7 1 = -1) (k81 : μ.2 8 1 = -1) (k91 : μ.2 9 1 = -1) (k15 : μ.2 15 0 = 0) (k16 : μ.2 16 0 = 1) : pS σ μ G00 0 0 := by
  have t0 : (0 : Int).toNat = 0 := rfl
  have t1 : (1 : Int).toNat = 1 := rfl
  have g0 : ∀ n, G00 0 n = 1 := fun _ => rfl
  have g1 : ∀ n, G00 1 n = 0 := fun _ => rfl
  have g2 : ∀ n, G00 2 n = 1 := fun _ => rfl
  have g3 : ∀ n, G00 3 n = 1 := fun _ => rfl
  have g6 : ∀ n, G00 6 n = 0 := fun _ => rfl
  have hq : qN μ 0 = 1 := by unfold qN; rw [t0, k16, t1, k81, if_pos (by decide)]
  have hQp : Qp μ 1 := ⟨0, by omega, by omega, hq.symm⟩
  have hn : ∀ n, 0 ≤ n → n < μ.1 8 → pNq σ μ G00 n := fun n n0 n1 => by
    have hc : n = 0 ∨ n = 1 := by omega
    rcases hc with e | e
    · subst e
      unfold pNq
      rw [t0, k30]
      refine ⟨by decide, fun z => absurd z (by decide), ⟨pTest_no (by rw [t0, k30]; decide), fun z => absurd z (by decide)⟩, fun z => absurd z (by decide), fun z => ?_, fun z => absurd z (by decide), fun z => absurd z (by decide)⟩
      rw [g6] at z; exact absurd z (by decide)
    · subst e
      unfold pNq
      rw [t1, k31]
      refine ⟨by decide, fun z => ⟨by rw [g0]; decide, by rw [g0, c4]; decide, by rw [g2]; decide, by rw [g2]; decide, by rw [g3], fun z => absurd z (by decide), fun z => absurd z (by decide)⟩, ⟨pTest_no (by rw [t1, k31]; decide), fun z => absurd z (by decide)⟩, fun _ => ⟨?_, Or.inl ⟨g1 1, by rw [g2]; decide⟩⟩, fun z => ?_, fun z => absurd z (by decide), fun z => absurd z (by decide)⟩
      · unfold qAlt
        rw [t1, k91, k71, g0, t1]
        exact ⟨a11, by rw [if_pos (by decide)]; exact a31, fun z => absurd z (by decide), fun z => absurd hQp z, fun z => absurd z (by decide)⟩
      · rw [g6] at z; exact absurd z (by decide)
  have hp : ∀ p, 0 ≤ p → p < σ.1 4 → σ.2 1 p.toNat = 0 ∨ σ.2 1 p.toNat = 11 := fun p p0 p1 => by
    have hc : p = 0 ∨ p = 1 := by omega
    rcases hc with e | e
    · subst e; exact Or.inl a10
    · subst e; exact Or.inr a11
  refine ⟨hx, ⟨hn, ⟨a10, k30, by rw [k70]; decide, by rw [k70, m8]; decide, by rw [k70]; exact k31, rfl, rfl, rfl⟩, fun p p0 p1 hE => ?_, fun p p0 p1 hE => ?_, fun n m n0 nm m1 hk => ?_, by omega, by omega, by omega, by omega, by omega, by omega, by omega, by omega⟩, ⟨⟨by omega, by omega, by omega⟩, fun j j0 j1 => ?_, fun j j0 j1 => by omega, ?_, ?_⟩, ⟨c12, m11, by omega, hx.2.1⟩, ⟨c13, m12⟩, ⟨by omega, fun i hi => by omega⟩, by omega, by omega, by omega, by omega, by omega⟩
  · exfalso
    have := hp p p0 p1
    rcases hE with z | z | z | z <;> omega
  · exfalso
    have := hp p p0 p1
    omega
  · have hc : n = 0 ∨ n = 1 := by omega
    rcases hc with e | e
    · subst e
      rw [t0, k30] at hk; exact absurd hk (by decide)
    · subst e
      rw [t1, k31] at hk; exact absurd hk (by decide)
  · have e : j = 0 := by omega
    subst e
    unfold lvl
    rw [t0, k16, k15, t0, t1, k31, k30, k80, k70, k71, k81, k91]
    exact ⟨⟨by decide, by omega, rfl, rfl, by decide⟩, ⟨by decide, by omega, rfl, rfl, by decide⟩, Or.inl ⟨by decide, by decide⟩, fun _ => rfl, fun z => absurd z (by decide)⟩
  · rw [c15]; rfl
  · rw [c16, m14, hq]
    unfold pex
    rw [t1, k31, if_neg (by decide)]; rfl
def cSt0 (σ : z_S) (x : Int) : z_S := zF (zF (zF (zF (zF (zF (zF (zF (zF (zF σ 11 x) 12 0) 13 (-1)) 14 0) 19 (-1)) 4 0) 5 0) 6 0) 7 0) 8 0
def cSt (σ : z_S) (x : Int) : z_S := zF (zF (cNode (cNode (cSt0 σ x) 0 0 0) 11 (-1) 0) 15 1) 16 1
def mSt0 (μ : z_S) : z_S := zF (zF (zF (zF (zF (zF μ 8 0) 9 0) 10 0) 11 0) 12 (-1)) 14 0
def mSt1 (μ : z_S) : z_S := zA (mNode (zA (mSt0 μ) 14 0 (-1)) 1 0 0 0) 15 0 0
def mSt (μ : z_S) : z_S := mAdd (zA (mNode (mSt1 μ) 2 0 0 0) 16 0 1) 0 1
theorem cSt_e {x : Int} : zReader_readPattern N x σ = zReader_readPattern_l49 N N 0 (cSt σ x) := by
  rw [zReader_readPattern_u, zProgram_clear_u]
  simp only [Option.bind_some]
  show ((zProgram_addNode N 0 0 0 (cSt0 σ x)).bind _) = _
  rw [cNode_e (σ := cSt0 σ x) (by show (0 : Int) ≤ 0; decide) (by show (0 : Int) < 602; decide)]
  simp only [Option.bind_some]
  rw [zReader_beginAlternative_u, cNode_e (σ := cNode (cSt0 σ x) 0 0 0) (by show (0 : Int) ≤ 0 + 1; decide) (by show (0 : Int) + 1 < 602; decide)]
  rfl
theorem cSt_fr {x : Int} : fPC σ (cSt σ x) := by
  unfold cSt cSt0
  exact zfr_F (zfr_F (zfr_tr (zfr_tr (zfr_F (zfr_F (zfr_F (zfr_F (zfr_F (zfr_F (zfr_F (zfr_F (zfr_F (zfr_F zfr_rf (by simp)) (by simp)) (by simp)) (by simp)) (by simp)) (by simp)) (by simp)) (by simp)) (by simp)) (by simp)) (zfr_up cNode_fr (by simp) (by simp))) (zfr_up cNode_fr (by simp) (by simp))) (by simp)) (by simp)
theorem mSt_e : zMod_read N μ = zMod_read_l35 N N (mSt μ) := by
  have i0 : zIn ((mSt0 μ).1 14) 41 := ⟨by show (0 : Int) ≤ 0; decide, by show (0 : Int) < 41; decide⟩
  have s8 : (mSt1 μ).1 8 = 1 := rfl
  rw [zMod_read_u]
  show ((zMod_opens N (-1) (mSt0 μ)).bind _) = _
  rw [zMod_opens_u, if_pos i0, mNode_e (μ := zA (mSt0 μ) 14 ((mSt0 μ).1 14).toNat (-1)) (by show (0 : Int) ≤ 0; decide) (by show (0 : Int) < 1300; decide)]
  simp only [Option.bind_some]
  rw [if_pos (by decide)]
  show (((zMod_newAlternative N (mSt1 μ)).bind _).bind _) = _
  rw [zMod_newAlternative_u, mNode_e (μ := mSt1 μ) (by rw [s8]; decide) (by rw [s8]; decide)]
  simp only [Option.bind_some]
  rw [if_pos (show zIn ((mSt1 μ).1 14) 41 from i0), if_pos (show zIn ((mNode (mSt1 μ) 2 0 0 0).1 14) 41 from i0)]
  show (((zMod_add N 0 1 (zA (mNode (mSt1 μ) 2 0 0 0) 16 0 1)).bind _).bind _).bind _ = _
  rw [mAdd_e (μ := zA (mNode (mSt1 μ) 2 0 0 0) 16 0 1) (by decide) (by decide) (fun z => ?_)]
  · rfl
  · exfalso
    have : (zA (mNode (mSt1 μ) 2 0 0 0) 16 0 1).2 7 (0 : Int).toNat = -1 := rfl
    omega
theorem mSt_fr : fPM μ (mSt μ) := by
  unfold mSt mSt1 mSt0
  exact zfr_tr (zfr_A (zfr_tr (zfr_A (zfr_tr (zfr_A (zfr_F (zfr_F (zfr_F (zfr_F (zfr_F (zfr_F zfr_rf (by simp)) (by simp)) (by simp)) (by simp)) (by simp)) (by simp)) (by simp)) (zfr_up mNode_fr (by simp) (by simp))) (by simp)) (zfr_up mNode_fr (by simp) (by simp))) (by simp)) fPM_add
/-- the whole reading -/
theorem zRead (hN : 2000 ≤ N) {x : Int} (hx : x = μ.1 2) (h0 : 0 ≤ μ.1 2) (h1 : μ.1 2 ≤ 200) (hu : ∀ i : Nat, (i : Int) < μ.1 2 → σ.2 0 i = μ.2 1 i ∧ 0 ≤ μ.2 1 i ∧ μ.2 1 i ≤ 65535) : rR σ μ (zReader_readPattern N x σ) (zMod_read N μ) := by
  have fC := cSt_fr (σ := σ) (x := x)
  have fM := mSt_fr (μ := μ)
  have e2 : (mSt μ).1 2 = μ.1 2 := fM.1 2 (by simp)
  have m1 : (mSt μ).1 = (zA (mNode (mSt1 μ) 2 0 0 0) 16 0 1).1 := mAdd_1
  have m2 := mAdd_2 (μ := zA (mNode (mSt1 μ) 2 0 0 0) 16 0 1) (a := 0) (t := 1)
  have h7 : (zA (mNode (mSt1 μ) 2 0 0 0) 16 0 1).2 7 (0 : Int).toNat = -1 := rfl
  rw [h7] at m2
  rw [cSt_e, mSt_e]
  have hxx : xL (cSt σ x) (mSt μ) := by
    refine ⟨?_, by rw [e2]; exact h0, by rw [e2]; exact h1, fun i hi => ?_⟩
    · rw [e2, ← hx]; rfl
    · rw [e2] at hi
      rw [fC.2 0 (by simp), fM.2 1 (by simp)]; exact hu i hi
  have hS : pS (cSt σ x) (mSt μ) G00 0 0 := by
    refine pS_0 hxx rfl rfl rfl rfl rfl rfl rfl rfl rfl rfl rfl rfl rfl (by rw [m1]; rfl) (by rw [m1]; rfl) (by rw [m1]; rfl) (by rw [m1]; rfl) (by rw [m1]; rfl) (by rw [m1]; rfl) ?_ ?_ ?_ ?_ ?_ ?_ ?_ ?_ ?_
    · exact (m2 3 0).trans rfl
    · exact (m2 3 1).trans rfl
    · exact (m2 7 0).trans rfl
    · exact (m2 8 0).trans rfl
    · exact (m2 7 1).trans rfl
    · exact (m2 8 1).trans rfl
    · exact (m2 9 1).trans rfl
    · exact (m2 15 0).trans rfl
    · exact (m2 16 0).trans rfl
  exact rR_tr (zLoop hN (μ.1 2).toNat N N 0 _ _ G00 0 hS rfl (by rw [e2]; omega) (by omega) (by omega) (by omega) (by omega)) fC fM
end ST
