section OPQ
variable {N : Nat} {σ μ : z_S} {G : Nat → Int → Int}
def mO2 (μ : z_S) (k p : Int) : z_S := zF (zF (if k = 12 then zF (mNode μ k (μ.1 9 + 1) 0 0) 9 (μ.1 9 + 1) else mNode μ k (μ.1 9 + 1) 0 0) 11 p) 14 (μ.1 14 + 1)
theorem mO2_f {k p : Int} : (mO2 μ k p).1 8 = μ.1 8 + 1 ∧ (mO2 μ k p).1 9 = (if k = 12 then μ.1 9 + 1 else μ.1 9) ∧ (mO2 μ k p).1 14 = μ.1 14 + 1 ∧ (mO2 μ k p).1 11 = p ∧ (mO2 μ k p).2 = (mNode μ k (μ.1 9 + 1) 0 0).2 ∧ ∀ j, j ≠ 8 → j ≠ 9 → j ≠ 14 → j ≠ 11 → (mO2 μ k p).1 j = μ.1 j := by
  unfold mO2
  by_cases c : k = 12
  · rw [if_pos c, if_pos c]
    refine ⟨rfl, rfl, rfl, rfl, rfl, fun j h8 h9 h14 h11 => ?_⟩
    show (if j = 14 then _ else if j = 11 then _ else if j = 9 then _ else if j = 8 then _ else μ.1 j) = _
    rw [if_neg h14, if_neg h11, if_neg h9, if_neg h8]
  · rw [if_neg c, if_neg c]
    refine ⟨rfl, rfl, rfl, rfl, rfl, fun j h8 h9 h14 h11 => ?_⟩
    show (if j = 14 then _ else if j = 11 then _ else if j = 8 then _ else μ.1 j) = _
    rw [if_neg h14, if_neg h11, if_neg h8]
theorem mO2_fr {k p : Int} : fPM μ (mO2 μ k p) := by
  unfold mO2
  refine zfr_F (zfr_F ?_ (by simp)) (by simp)
  split
  · exact zfr_F (zfr_up mNode_fr (by simp) (by simp)) (by simp)
  · exact zfr_up mNode_fr (by simp) (by simp)
theorem mO2_7 {k p : Int} : (mO2 μ k p).2 7 (μ.1 8).toNat < 0 := by
  rw [mO2_f.2.2.2.2.1, mNode_2, if_pos rfl]
  show (-1 : Int) < 0
  decide
/-- the reference opens a group of the kind k -/
theorem mO2_e {k p : Int} (hp : p = μ.1 11 + if k = 12 then 1 else 3) (h11 : 0 ≤ μ.1 11 ∧ μ.1 11 ≤ 500) (h9 : 0 ≤ μ.1 9 ∧ μ.1 9 ≤ 20) (h8 : 0 ≤ μ.1 8 ∧ μ.1 8 + 3 ≤ 1300) (h14 : 0 ≤ μ.1 14 ∧ μ.1 14 < 40) (hw : μ.1 12 < 0) : zMod_openGroup_b129 N k μ = some (0, mOpens (mO2 μ k p) (μ.1 8)) := by
  obtain ⟨f8, f9, f14, f11, f2, fo⟩ := mO2_f (μ := μ) (k := k) (p := p)
  have hop : zMod_opens N (μ.1 8) (mO2 μ k p) = some (0, mOpens (mO2 μ k p) (μ.1 8)) := mOpens_e h8.1 (by omega) mO2_7 (by omega) (by omega) (by omega)
  have i9 : zin (μ.1 9 + 1) := ⟨by omega, by omega⟩
  unfold zMod_openGroup_b129 zMod_openGroup_b137
  rw [if_pos hw, if_pos i9, mNode_e h8.1 (by omega)]
  simp only [Option.bind_some]
  by_cases c : k = 12
  · rw [if_pos c] at hp
    rw [if_pos c]
    unfold zMod_openGroup_b157 zMod_openGroup_b167 zMod_openGroup_b178 zMod_openGroup_b183
    rw [show (mNode μ k (μ.1 9 + 1) 0 0).1 9 = μ.1 9 from rfl, if_pos i9, if_pos c]
    rw [show (zF (mNode μ k (μ.1 9 + 1) 0 0) 9 (μ.1 9 + 1)).1 11 = μ.1 11 from rfl, show (zF (mNode μ k (μ.1 9 + 1) 0 0) 9 (μ.1 9 + 1)).1 14 = μ.1 14 from rfl, if_pos (show zin (μ.1 11 + 1) from ⟨by omega, by omega⟩), if_pos (show zin (μ.1 14 + 1) from ⟨by omega, by omega⟩), ← hp]
    have e : zF (zF (zF (mNode μ k (μ.1 9 + 1) 0 0) 9 (μ.1 9 + 1)) 11 p) 14 (μ.1 14 + 1) = mO2 μ k p := by unfold mO2; rw [if_pos c]
    rw [e, hop]
    rfl
  · rw [if_neg c] at hp
    rw [if_neg c]
    unfold zMod_openGroup_b167 zMod_openGroup_b182 zMod_openGroup_b183
    rw [if_neg c]
    rw [show (mNode μ k (μ.1 9 + 1) 0 0).1 11 = μ.1 11 from rfl, show (mNode μ k (μ.1 9 + 1) 0 0).1 14 = μ.1 14 from rfl, if_pos (show zin (μ.1 11 + 3) from ⟨by omega, by omega⟩), if_pos (show zin (μ.1 14 + 1) from ⟨by omega, by omega⟩), ← hp]
    have e : zF (zF (mNode μ k (μ.1 9 + 1) 0 0) 11 p) 14 (μ.1 14 + 1) = mO2 μ k p := by unfold mO2; rw [if_neg c]
    rw [e, hop]
    rfl
/-- both, behind an opening -/
theorem pS_opn {a k num p : Int} {σ' : z_S} (hS : pS σ μ G a 0) (h19 : σ.1 19 = -1) (hk : 12 ≤ k ∧ k ≤ 15) (hd40 : μ.1 14 < 40) (hp : p = a + if k = 12 then 1 else 3) (hp2 : p ≤ μ.1 2) (h12 : k = 12 → num = μ.1 9 + 1 ∧ μ.1 9 < 20 ∧ σ'.1 8 = σ.1 8 + 1) (h13 : k ≠ 12 → σ'.1 8 = σ.1 8) (h14 : 14 ≤ k → num = σ.1 7 ∧ σ'.1 7 = σ.1 7 + 1) (h15 : k < 14 → σ'.1 7 = σ.1 7)
    (e2 : σ'.2 = (cOpen σ (2 * k - 9) num).2) (e1 : ∀ j, j ≠ 7 → j ≠ 8 → j ≠ 12 → σ'.1 j = (cOpen σ (2 * k - 9) num).1 j) (e12 : σ'.1 12 = p) :
    tR σ μ (some (0, σ')) (zMod_openGroup_b129 N k μ) (a + 1) := by
  obtain ⟨hx, hn, hl, ⟨ha, hma, h0, h1⟩, ⟨hs0, hw⟩, ⟨h5, hpm⟩, hB1, hB2, hB3, hB4, hB5⟩ := hS
  have h200 := hx.2.2.1
  obtain ⟨N1, N2, N3, N4, N5, N6, N7, N8⟩ := id hn.2.2.2.2.2
  obtain ⟨⟨d0, d1, d2⟩, -⟩ := id hl
  have hpp : a + 1 ≤ p := by rw [hp]; split <;> omega
  have hp3 : k ≠ 12 → p = a + 3 := fun z => by rw [hp, if_neg z]
  have hM := mO2_e (N := N) (μ := μ) (k := k) (p := p) (by rw [hma]; exact hp) (by omega) (by omega) (by omega) (by omega) (by omega)
  obtain ⟨f8, f9, f14, f11, f2, fo⟩ := mO2_f (μ := μ) (k := k) (p := p)
  obtain ⟨g8, go⟩ := mOpens_1 (μ := mO2 μ k p) (n := μ.1 8)
  have m2 := mOpens_2 (μ := mO2 μ k p) (n := μ.1 8) (by omega) (by omega) mO2_7
  have m1 := mOp1_2 (μ := mO2 μ k p) (n := μ.1 8) (by omega) (by omega) mO2_7
  obtain ⟨s14, s15, s16⟩ := mOpens_st (μ := mO2 μ k p) (n := μ.1 8)
  have mn := mNode_2 (μ := μ) (k := k) (a := μ.1 9 + 1) (b := 0) (c := 0)
  have g9 : (mOpens (mO2 μ k p) (μ.1 8)).1 9 = if k = 12 then μ.1 9 + 1 else μ.1 9 := by rw [go 9 (by omega), f9]
  obtain ⟨c4, c14, c15, c16, co⟩ := cOpen_1 (σ := σ) (K := 2 * k - 9) (num := num)
  have c2 := cOpen_2 (σ := σ) (K := 2 * k - 9) (num := num) (by omega)
  obtain ⟨ch, ch0, ch13, ch14, ch15, ch16⟩ := cOpen_hi (σ := σ) (K := 2 * k - 9) (num := num)
  rw [f8] at m2 m1 g8 s15 s16
  rw [f14] at s14 s15 s16
  have mst : ∀ j, 14 ≤ j → j ≤ 16 → (mO2 μ k p).2 j = μ.2 j := fun j j1 j2 => by rw [f2, mNode_fr.2 j (by simp; omega)]
  rw [mst 14 (by omega) (by omega)] at s14
  rw [mst 15 (by omega) (by omega)] at s15
  rw [mst 16 (by omega) (by omega)] at s16
  have T := tOpen (σ := σ) (μ := μ) (G := G) (σ' := σ') (μ' := mOpens (mO2 μ k p) (μ.1 8)) (k := k) (num := num) hn hl hk hd40
    ⟨fun z => ⟨(h12 z).1, by rw [g9, if_pos z], (h12 z).2.1⟩, fun z => by rw [g9, if_neg z], h14, h15⟩
    (fun j q j1 j2 q0 q1 => by rw [e2, c2 j _ ⟨j1, j2⟩, if_neg (by omega), if_neg (by omega), if_neg (by omega), if_neg (by omega)])
    (by
      rw [e2]
      refine ⟨?_, ?_, ?_, ?_, ?_, ?_, ?_, ?_⟩
      · rw [c2 1 _ (by omega), if_neg (by omega), if_neg (by omega), if_neg (by omega), if_pos rfl, if_pos rfl]
      · rw [c2 1 _ (by omega), if_neg (by omega), if_neg (by omega), if_pos rfl, if_pos rfl]; omega
      · rw [c2 1 _ (by omega), if_neg (by omega), if_pos rfl, if_pos rfl]
      · rw [c2 2 _ (by omega), if_pos ⟨rfl, rfl⟩]
      · rw [c2 2 _ (by omega), if_neg (by omega), if_neg (by omega), if_pos rfl]; rfl
      · rw [c2 3 _ (by omega), if_neg (by omega), if_neg (by omega), if_neg (by omega), if_pos rfl]; rfl
      · rw [c2 3 _ (by omega), if_neg (by omega), if_neg (by omega), if_pos rfl]; rfl
      · rw [c2 3 _ (by omega), if_neg (by omega), if_pos rfl]; rfl)
    (fun j j1 j2 => by rw [e2, ch j (by omega) j2])
    (fun j i j1 j2 hi => by
      rw [e2]
      have hc : j = 13 ∨ j = 14 ∨ j = 15 ∨ j = 16 := by omega
      rcases hc with e | e | e | e <;> subst e
      · rw [ch13, d2, zupd_n hi]
      · rw [ch14, d2, zupd_n hi]
      · rw [ch15, d2, zupd_n hi]
      · rw [ch16, d2, zupd_n hi])
    (by rw [e2, ch13, ch14, ch15, ch16, d2, zupd_s, zupd_s, zupd_s, zupd_s]; exact ⟨rfl, rfl, rfl, rfl⟩)
    (by
      refine ⟨?_, ?_, ?_, ?_, ?_, ?_⟩
      · rw [e1 4 (by omega) (by omega) (by omega), c4]
      · rw [e1 6 (by omega) (by omega) (by omega), co 6 (by omega) (by omega) (by omega) (by omega)]
      · rw [g9]
        by_cases z : k = 12
        · rw [if_pos z, (h12 z).2.2, N5]
        · rw [if_neg z, h13 z, N5]
      · rw [e1 14 (by omega) (by omega) (by omega), c14, d2]
      · rw [e1 15 (by omega) (by omega) (by omega), c15]
      · rw [e1 16 (by omega) (by omega) (by omega), c16])
    (fun j m j1 j2 m0 mm => by
      rw [m2 j _ ⟨j1, j2⟩, if_neg (by omega), if_neg (by omega), m1 j _ ⟨j1, j2⟩, if_neg (by omega), if_neg (by omega), f2, mn, if_neg (by omega)])
    (by
      refine ⟨?_, ?_, ?_, fun z => ?_, ?_, ?_, ?_, ?_, ?_, ?_, ?_, ?_⟩
      · rw [m2 3 _ (by omega), if_neg (by omega), if_neg (by omega), m1 3 _ (by omega), if_neg (by omega), if_neg (by omega), f2, mn, if_pos rfl]; rfl
      · rw [m2 3 _ (by omega), if_neg (by omega), if_neg (by omega), m1 3 _ (by omega), if_neg (by omega), if_pos rfl]; rfl
      · rw [m2 3 _ (by omega), if_pos (by omega)]; rfl
      · rw [m2 4 _ (by omega), if_neg (by omega), if_neg (by omega), m1 4 _ (by omega), if_neg (by omega), if_neg (by omega), f2, mn, if_pos rfl, (h12 z).1]; rfl
      · rw [m2 7 _ (by omega), if_neg (by omega), if_neg (by omega), m1 7 _ (by omega), if_pos (by omega)]
      · rw [m2 7 _ (by omega), if_neg (by omega), if_pos (by omega)]; omega
      · rw [m2 7 _ (by omega), if_pos (by omega)]; rfl
      · rw [m2 8 _ (by omega), if_neg (by omega), if_pos (by omega)]; omega
      · rw [m2 8 _ (by omega), if_pos (by omega)]; rfl
      · rw [m2 9 _ (by omega), if_neg (by omega), if_neg (by omega), m1 9 _ (by omega), if_neg (by omega), if_neg (by omega), f2, mn, if_pos rfl]; rfl
      · rw [m2 9 _ (by omega), if_pos (by omega)]; rfl
      · rw [m2 10 _ (by omega), if_neg (by omega), if_neg (by omega), m1 10 _ (by omega), if_neg (by omega), if_neg (by omega), f2, mn, if_pos rfl]; rfl)
    (fun j i j1 j2 hi => by
      have hc : j = 14 ∨ j = 15 ∨ j = 16 := by omega
      rcases hc with e | e | e <;> subst e
      · rw [s14, zupd_n hi]
      · rw [s15, zupd_n hi]
      · rw [s16, zupd_n hi])
    (by rw [s14, s15, s16, zupd_s, zupd_s, zupd_s]; exact ⟨rfl, rfl, by omega⟩)
    (by
      refine ⟨by rw [g8]; omega, ?_, ?_⟩
      · rw [go 14 (by omega), f14]
      · rw [go 10 (by omega), fo 10 (by omega) (by omega) (by omega) (by omega)])
  have FC : fPC σ σ' := by
    have fc := cOpen_fr (σ := σ) (K := 2 * k - 9) (num := num)
    refine ⟨fun j hj => ?_, fun j hj => ?_⟩
    · rw [e1 j (fun z => hj (by rw [z]; simp)) (fun z => hj (by rw [z]; simp)) (fun z => hj (by rw [z]; simp))]
      exact fc.1 j hj
    · rw [e2]; exact fc.2 j hj
  have FM : fPM μ (mOpens (mO2 μ k p) (μ.1 8)) := zfr_tr mO2_fr mOpens_fr
  have e19 : σ'.1 19 = -1 := by rw [e1 19 (by omega) (by omega) (by omega), co 19 (by omega) (by omega) (by omega) (by omega)]; exact h19
  refine ⟨0, 0, σ', _, rfl, hM, FC, FM, Or.inl ⟨_, p, ⟨?_, T.1, T.2, ⟨e12, ?_, by omega, ?_⟩, ⟨?_, ?_⟩, ⟨?_, fun i hi => ?_⟩, ?_⟩, hpp, e19⟩⟩
  · refine xL_mv hx ?_ (by rw [e2, ch0]) (FM.1 2 (by simp)) (FM.2 1 (by simp))
    rw [e1 11 (by omega) (by omega) (by omega), co 11 (by omega) (by omega) (by omega) (by omega)]
  · rw [go 11 (by omega), f11]
  · rw [FM.1 2 (by simp)]; exact hp2
  · rw [e1 13 (by omega) (by omega) (by omega), co 13 (by omega) (by omega) (by omega) (by omega)]; exact hs0
  · rw [go 12 (by omega), fo 12 (by omega) (by omega) (by omega) (by omega)]; exact hw
  · rw [e1 5 (by omega) (by omega) (by omega), co 5 (by omega) (by omega) (by omega) (by omega), go 10 (by omega), fo 10 (by omega) (by omega) (by omega) (by omega)]; exact h5
  · rw [go 10 (by omega), fo 10 (by omega) (by omega) (by omega) (by omega)] at hi
    have := hpm i hi
    have o12 : (mOpens (mO2 μ k p) (μ.1 8)).2 12 = μ.2 12 ∧ (mOpens (mO2 μ k p) (μ.1 8)).2 13 = μ.2 13 := by
      unfold mOpens mOp1
      constructor
      · rw [mAdd_fr.2 12 (by simp), zA_2, if_neg (by omega), mNode_fr.2 12 (by simp), mAdd_fr.2 12 (by simp), zA_2, if_neg (by omega), mNode_fr.2 12 (by simp), zA_2, if_neg (by omega), f2, mNode_fr.2 12 (by simp)]
      · rw [mAdd_fr.2 13 (by simp), zA_2, if_neg (by omega), mNode_fr.2 13 (by simp), mAdd_fr.2 13 (by simp), zA_2, if_neg (by omega), mNode_fr.2 13 (by simp), zA_2, if_neg (by omega), f2, mNode_fr.2 13 (by simp)]
    unfold pMem at this ⊢
    rw [e2, ch 5 (by omega) (by omega), ch 6 (by omega) (by omega), o12.1, o12.2]; exact this
  · unfold pB
    have q7 : 4 * σ'.1 7 ≤ p + (μ.1 14 + 1) := by
      by_cases z : 14 ≤ k
      · rw [(h14 z).2, hp3 (by omega)]; omega
      · rw [h15 (by omega)]; omega
    rw [e1 4 (by omega) (by omega) (by omega), c4, e1 6 (by omega) (by omega) (by omega), co 6 (by omega) (by omega) (by omega) (by omega), g8, go 14 (by omega), f14, go 10 (by omega), fo 10 (by omega) (by omega) (by omega) (by omega)]
    omega
end OPQ
