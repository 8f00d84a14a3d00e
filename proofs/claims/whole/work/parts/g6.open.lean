section OPN
variable {N : Nat} {σ μ : z_S} {G : Nat → Int → Int}
def cOp3 (σ : z_S) (K num : Int) : z_S := zA (zA (zA (zA (cNode (cNode σ K num 0) (K + 1) num 0) 13 (σ.1 14).toNat (σ.1 4)) 14 (σ.1 14).toNat (σ.1 16)) 15 (σ.1 14).toNat (σ.1 15)) 16 (σ.1 14).toNat (σ.1 8)
def cOpen (σ : z_S) (K num : Int) : z_S := zA (zF (zF (cNode (zF (cOp3 σ K num) 14 (σ.1 14 + 1)) 11 (-1) 0) 15 (σ.1 4 + 2)) 16 (σ.1 4 + 2)) 2 (σ.1 4).toNat (σ.1 4 + 2)
theorem cOpen_e {K num : Int} (h0 : 0 ≤ σ.1 4) (h1 : σ.1 4 + 3 ≤ 602) (hd0 : 0 ≤ σ.1 14) (hd1 : σ.1 14 < 40) (hK : 0 ≤ K ∧ K < 100) : zReader_openParenthesis N K num σ = some (0, cOpen σ K num) := by
  have e14 : (zF (cOp3 σ K num) 14 (σ.1 14 + 1)).1 4 = σ.1 4 + 2 := by show σ.1 4 + 1 + 1 = _; omega
  rw [zReader_openParenthesis_u, cNode_e h0 (by omega)]
  simp only [Option.bind_some]
  rw [if_pos (show zin (K + 1) from ⟨by omega, by omega⟩), cNode_e (σ := cNode σ K num 0) (by show 0 ≤ σ.1 4 + 1; omega) (by show σ.1 4 + 1 < 602; omega)]
  simp only [Option.bind_some]
  rw [zrw (by decide) (by exact hd0) (by show σ.1 14 < (40 : Int); omega)]
  simp only [Option.bind_some]
  rw [zrw (by decide) (by exact hd0) (by show σ.1 14 < (40 : Int); omega)]
  simp only [Option.bind_some]
  rw [zrw (by decide) (by exact hd0) (by show σ.1 14 < (40 : Int); omega)]
  simp only [Option.bind_some]
  rw [zrw (by decide) (by exact hd0) (by show σ.1 14 < (40 : Int); omega)]
  simp only [Option.bind_some]
  show (if zin (σ.1 14 + 1) then (zReader_beginAlternative N (zF (cOp3 σ K num) 14 (σ.1 14 + 1))).bind fun q95 => (zProgram_link N (σ.1 4) (q95.2.1 15) q95.2).bind fun q107 => some (0, q107.2) else none) = _
  rw [if_pos (show zin (σ.1 14 + 1) from ⟨by omega, by omega⟩), zReader_beginAlternative_u, cNode_e (σ := zF (cOp3 σ K num) 14 (σ.1 14 + 1)) (by omega) (by omega), e14]
  simp only [Option.bind_some]
  rw [cLink_e h0 (by omega)]
  rfl
theorem cOpen_1 {K num : Int} : (cOpen σ K num).1 4 = σ.1 4 + 3 ∧ (cOpen σ K num).1 14 = σ.1 14 + 1 ∧ (cOpen σ K num).1 15 = σ.1 4 + 2 ∧ (cOpen σ K num).1 16 = σ.1 4 + 2 ∧ ∀ j, j ≠ 4 → j ≠ 14 → j ≠ 15 → j ≠ 16 → (cOpen σ K num).1 j = σ.1 j := by
  refine ⟨by show σ.1 4 + 1 + 1 + 1 = _; omega, rfl, rfl, rfl, fun j h4 h14 h15 h16 => ?_⟩
  show (if j = 16 then _ else if j = 15 then _ else if j = 4 then _ else if j = 14 then _ else if j = 4 then _ else if j = 4 then _ else σ.1 j) = _
  rw [if_neg h16, if_neg h15, if_neg h4, if_neg h14, if_neg h4, if_neg h4]
theorem cOp3_2 {K num : Int} (j i : Nat) (hj : ¬ (13 ≤ j ∧ j ≤ 16)) : (cOp3 σ K num).2 j i = (cNode (cNode σ K num 0) (K + 1) num 0).2 j i := by
  unfold cOp3
  rw [zA_2, if_neg (by omega), zA_2, if_neg (by omega), zA_2, if_neg (by omega), zA_2, if_neg (by omega)]
theorem cOpen_2 {K num : Int} (h0 : 0 ≤ σ.1 4) (j i : Nat) (hj : 1 ≤ j ∧ j ≤ 4) : (cOpen σ K num).2 j i = if j = 2 ∧ i = (σ.1 4).toNat then σ.1 4 + 2 else if i = (σ.1 4 + 2).toNat then (if j = 1 then 11 else if j = 2 then 0 else if j = 3 then -1 else 0) else if i = (σ.1 4 + 1).toNat then (if j = 1 then K + 1 else if j = 2 then 0 else if j = 3 then num else 0) else if i = (σ.1 4).toNat then (if j = 1 then K else if j = 2 then 0 else if j = 3 then num else 0) else σ.2 j i := by
  have hb : (cNode (zF (cOp3 σ K num) 14 (σ.1 14 + 1)) 11 (-1) 0).2 j i = if i = (σ.1 4 + 2).toNat then (if j = 1 then 11 else if j = 2 then 0 else if j = 3 then -1 else 0) else if i = (σ.1 4 + 1).toNat then (if j = 1 then K + 1 else if j = 2 then 0 else if j = 3 then num else 0) else if i = (σ.1 4).toNat then (if j = 1 then K else if j = 2 then 0 else if j = 3 then num else 0) else σ.2 j i := by
    have e14 : (zF (cOp3 σ K num) 14 (σ.1 14 + 1)).1 4 = σ.1 4 + 2 := by show σ.1 4 + 1 + 1 = _; omega
    have e1 : (cNode σ K num 0).1 4 = σ.1 4 + 1 := rfl
    rw [cNode_2, e14]
    show (if i = (σ.1 4 + 2).toNat then (if j = 1 then (11 : Int) else if j = 2 then 0 else if j = 3 then -1 else if j = 4 then 0 else (cOp3 σ K num).2 j i) else (cOp3 σ K num).2 j i) = _
    rw [cOp3_2 j i (by omega), cNode_2, e1, cNode_2]
    have hc : j = 1 ∨ j = 2 ∨ j = 3 ∨ j = 4 := by omega
    rcases hc with e | e | e | e <;> subst e <;> rfl
  unfold cOpen
  rw [zA_2]
  by_cases e : j = 2
  · subst e
    rw [if_pos rfl, zupd_e]
    by_cases ei : i = (σ.1 4).toNat
    · rw [if_pos ei, if_pos ⟨rfl, ei⟩]
    · rw [if_neg ei, if_neg (fun z => ei z.2)]
      exact hb
  · rw [if_neg e, if_neg (fun z => e z.1)]
    exact hb
theorem cOpen_hi {K num : Int} : (∀ j, 5 ≤ j → j ≤ 12 → (cOpen σ K num).2 j = σ.2 j) ∧ (cOpen σ K num).2 0 = σ.2 0 ∧ (cOpen σ K num).2 13 = zupd (σ.2 13) (σ.1 14).toNat (σ.1 4) ∧ (cOpen σ K num).2 14 = zupd (σ.2 14) (σ.1 14).toNat (σ.1 16) ∧ (cOpen σ K num).2 15 = zupd (σ.2 15) (σ.1 14).toNat (σ.1 15) ∧ (cOpen σ K num).2 16 = zupd (σ.2 16) (σ.1 14).toNat (σ.1 8) := by
  have hc : ∀ j, ¬ (1 ≤ j ∧ j ≤ 4) → (cOpen σ K num).2 j = (cOp3 σ K num).2 j := fun j hj => by
    unfold cOpen
    rw [zA_2, if_neg (by omega)]
    show (cNode (zF (cOp3 σ K num) 14 (σ.1 14 + 1)) 11 (-1) 0).2 j = _
    rw [cNode_fr.2 j (by simp; omega)]
    rfl
  have hd : ∀ j, ¬ (1 ≤ j ∧ j ≤ 4) → (cNode (cNode σ K num 0) (K + 1) num 0).2 j = σ.2 j := fun j hj => by rw [cNode_fr.2 j (by simp; omega), cNode_fr.2 j (by simp; omega)]
  refine ⟨fun j j1 j2 => ?_, ?_, ?_, ?_, ?_, ?_⟩
  · rw [hc j (by omega)]
    funext i
    rw [cOp3_2 j i (by omega), hd j (by omega)]
  · rw [hc 0 (by omega)]
    funext i
    rw [cOp3_2 0 i (by omega), hd 0 (by omega)]
  · rw [hc 13 (by omega)]
    show zupd ((cNode (cNode σ K num 0) (K + 1) num 0).2 13) _ _ = _
    rw [hd 13 (by omega)]
  · rw [hc 14 (by omega)]
    show zupd ((cNode (cNode σ K num 0) (K + 1) num 0).2 14) _ _ = _
    rw [hd 14 (by omega)]
  · rw [hc 15 (by omega)]
    show zupd ((cNode (cNode σ K num 0) (K + 1) num 0).2 15) _ _ = _
    rw [hd 15 (by omega)]
  · rw [hc 16 (by omega)]
    show zupd ((cNode (cNode σ K num 0) (K + 1) num 0).2 16) _ _ = _
    rw [hd 16 (by omega)]
theorem cOpen_fr {K num : Int} : fPC σ (cOpen σ K num) := by
  unfold cOpen cOp3
  exact zfr_A (zfr_F (zfr_F (zfr_tr (zfr_F (zfr_A (zfr_A (zfr_A (zfr_A (zfr_tr (zfr_up cNode_fr (by simp) (by simp)) (zfr_up cNode_fr (by simp) (by simp))) (by simp)) (by simp)) (by simp)) (by simp)) (by simp)) (zfr_up cNode_fr (by simp) (by simp))) (by simp)) (by simp)) (by simp)
/-- the reference opens -/
def mOp1 (μ : z_S) (n : Int) : z_S := mAdd (zA (mNode (zA μ 14 (μ.1 14).toNat n) 1 0 0 0) 15 (μ.1 14).toNat (μ.1 8)) n (μ.1 8)
def mOpens (μ : z_S) (n : Int) : z_S := mAdd (zA (mNode (mOp1 μ n) 2 0 0 0) 16 (μ.1 14).toNat (μ.1 8 + 1)) (μ.1 8) (μ.1 8 + 1)
theorem mOp1_f {n : Int} : (mOp1 μ n).1 8 = μ.1 8 + 1 ∧ (mOp1 μ n).1 14 = μ.1 14 ∧ (mOp1 μ n).1 9 = μ.1 9 ∧ ∀ j, j ≠ 8 → (mOp1 μ n).1 j = μ.1 j := by
  unfold mOp1
  rw [mAdd_1]
  refine ⟨rfl, rfl, rfl, fun j h => ?_⟩
  show (if j = 8 then _ else μ.1 j) = _
  rw [if_neg h]
theorem mOp1_2 {n : Int} (n0 : 0 ≤ n) (n1 : n < μ.1 8) (h7 : μ.2 7 n.toNat < 0) (j i : Nat) (hj : 3 ≤ j ∧ j ≤ 11) : (mOp1 μ n).2 j i = if i = n.toNat ∧ (j = 7 ∨ j = 8) then μ.1 8 else if i = (μ.1 8).toNat then (if j = 3 then 1 else if j = 4 then 0 else if j = 5 then 0 else if j = 6 then 0 else if j = 7 then -1 else if j = 8 then -1 else if j = 9 then -1 else μ.1 9) else μ.2 j i := by
  have ht : ∀ j i : Nat, 3 ≤ j → j ≤ 11 → (zA (mNode (zA μ 14 (μ.1 14).toNat n) 1 0 0 0) 15 (μ.1 14).toNat (μ.1 8)).2 j i = if i = (μ.1 8).toNat then (if j = 3 then 1 else if j = 4 then 0 else if j = 5 then 0 else if j = 6 then 0 else if j = 7 then -1 else if j = 8 then -1 else if j = 9 then -1 else μ.1 9) else μ.2 j i := fun j i j1 j2 => by
    rw [zA_2, if_neg (by omega), mNode_2]
    have e8 : (zA μ 14 (μ.1 14).toNat n).1 8 = μ.1 8 := rfl
    have eo : (zA μ 14 (μ.1 14).toNat n).2 j i = μ.2 j i := by rw [zA_2, if_neg (by omega)]
    rw [e8, eo]
    by_cases c : i = (μ.1 8).toNat
    · rw [if_pos c, if_pos c]
      have hc : j = 3 ∨ j = 4 ∨ j = 5 ∨ j = 6 ∨ j = 7 ∨ j = 8 ∨ j = 9 ∨ j = 10 ∨ j = 11 := by omega
      rcases hc with e | e | e | e | e | e | e | e | e <;> subst e <;> rfl
    · rw [if_neg c, if_neg c]
  unfold mOp1
  have hne : n.toNat ≠ (μ.1 8).toNat := by omega
  rw [mAdd_2, ht 7 n.toNat (by omega) (by omega), if_neg hne, ht j i hj.1 hj.2]
  generalize (if i = (μ.1 8).toNat then (if j = 3 then (1 : Int) else if j = 4 then 0 else if j = 5 then 0 else if j = 6 then 0 else if j = 7 then -1 else if j = 8 then -1 else if j = 9 then -1 else μ.1 9) else μ.2 j i) = B
  by_cases c : i = n.toNat
  · by_cases e8 : j = 8
    · rw [if_pos ⟨e8, c⟩, if_pos ⟨c, Or.inr e8⟩]
    · by_cases e7 : j = 7
      · rw [if_neg (fun z => e8 z.1), if_pos ⟨e7, c, h7⟩, if_pos ⟨c, Or.inl e7⟩]
      · rw [if_neg (fun z => e8 z.1), if_neg (fun z => e7 z.1), if_neg (fun z => z.2.2 h7), if_neg (fun z => by rcases z.2 with q | q; exact e7 q; exact e8 q)]
  · rw [if_neg (fun z => c z.2), if_neg (fun z => c z.2.1), if_neg (fun z => z.2.2 h7), if_neg (fun z => c z.1)]
theorem mOpens_e {n : Int} (n0 : 0 ≤ n) (n1 : n < μ.1 8) (h7 : μ.2 7 n.toNat < 0) (d0 : 0 ≤ μ.1 14) (d1 : μ.1 14 < 41) (h8 : μ.1 8 + 2 ≤ 1300) : zMod_opens N n μ = some (0, mOpens μ n) := by
  have i1 : zIn (μ.1 14) 41 := ⟨d0, by omega⟩
  obtain ⟨f8, f14, f9, fo⟩ := mOp1_f (μ := μ) (n := n)
  have m1 := mOp1_2 (μ := μ) n0 n1 h7
  rw [zMod_opens_u, if_pos i1, mNode_e (μ := zA μ 14 (μ.1 14).toNat n) (by show 0 ≤ μ.1 8; omega) (by show μ.1 8 < 1300; omega)]
  simp only [Option.bind_some]
  rw [if_neg (by omega), if_pos (show zIn ((zA (mNode (zA μ 14 (μ.1 14).toNat n) 1 0 0 0) 15 (μ.1 14).toNat ((zA μ 14 (μ.1 14).toNat n).1 8)).1 14) 41 from i1)]
  have e15 : (zA (mNode (zA μ 14 (μ.1 14).toNat n) 1 0 0 0) 15 (μ.1 14).toNat ((zA μ 14 (μ.1 14).toNat n).1 8)).2 15 ((zA (mNode (zA μ 14 (μ.1 14).toNat n) 1 0 0 0) 15 (μ.1 14).toNat ((zA μ 14 (μ.1 14).toNat n).1 8)).1 14).toNat = μ.1 8 := by
    show zupd _ (μ.1 14).toNat (μ.1 8) (μ.1 14).toNat = _
    rw [zupd_s]
  rw [e15]
  show ((zMod_add N n (μ.1 8) (zA (mNode (zA μ 14 (μ.1 14).toNat n) 1 0 0 0) 15 (μ.1 14).toNat (μ.1 8))).bind _) = _
  have g7 : (zA (mNode (zA μ 14 (μ.1 14).toNat n) 1 0 0 0) 15 (μ.1 14).toNat (μ.1 8)).2 7 n.toNat = μ.2 7 n.toNat := by
    rw [zA_2, if_neg (by omega), mNode_2, if_neg (show n.toNat ≠ ((zA μ 14 (μ.1 14).toNat n).1 8).toNat by show n.toNat ≠ (μ.1 8).toNat; omega), zA_2, if_neg (by omega)]
  rw [mAdd_e n0 (by omega) (fun z => by rw [g7] at z; omega)]
  simp only [Option.bind_some]
  show ((zMod_newAlternative N (mOp1 μ n)).bind _) = _
  rw [zMod_newAlternative_u, mNode_e (μ := mOp1 μ n) (by omega) (by omega)]
  simp only [Option.bind_some]
  rw [f14, if_pos i1, show (mNode (mOp1 μ n) 2 0 0 0).1 14 = μ.1 14 from f14, if_pos i1, f8]
  have e15b : (mNode (mOp1 μ n) 2 0 0 0).2 15 (μ.1 14).toNat = μ.1 8 := by
    rw [mNode_fr.2 15 (by simp)]
    unfold mOp1
    rw [mAdd_fr.2 15 (by simp)]
    show zupd _ (μ.1 14).toNat (μ.1 8) (μ.1 14).toNat = _
    rw [zupd_s]
  have e16 : (zA (mNode (mOp1 μ n) 2 0 0 0) 16 (μ.1 14).toNat (μ.1 8 + 1)).2 16 (μ.1 14).toNat = μ.1 8 + 1 := by
    show zupd _ (μ.1 14).toNat (μ.1 8 + 1) (μ.1 14).toNat = _
    rw [zupd_s]
  rw [e15b, e16]
  have g7b : (zA (mNode (mOp1 μ n) 2 0 0 0) 16 (μ.1 14).toNat (μ.1 8 + 1)).2 7 (μ.1 8).toNat = -1 := by
    rw [zA_2, if_neg (by omega), mNode_2, f8, if_neg (by omega), m1 7 _ (by omega), if_neg (by omega), if_pos rfl]; rfl
  rw [mAdd_e (by omega) (by omega) (fun z => by rw [g7b] at z; omega)]
  rfl
theorem mOpens_2 {n : Int} (n0 : 0 ≤ n) (n1 : n < μ.1 8) (h7 : μ.2 7 n.toNat < 0) (j i : Nat) (hj : 3 ≤ j ∧ j ≤ 11) : (mOpens μ n).2 j i = if i = (μ.1 8 + 1).toNat then (if j = 3 then 2 else if j = 4 then 0 else if j = 5 then 0 else if j = 6 then 0 else if j = 7 then -1 else if j = 8 then -1 else if j = 9 then -1 else μ.1 9) else if i = (μ.1 8).toNat ∧ (j = 7 ∨ j = 8) then μ.1 8 + 1 else (mOp1 μ n).2 j i := by
  obtain ⟨f8, f14, f9, fo⟩ := mOp1_f (μ := μ) (n := n)
  have m1 := mOp1_2 (μ := μ) n0 n1 h7
  have ht : ∀ j i : Nat, 3 ≤ j → j ≤ 11 → (zA (mNode (mOp1 μ n) 2 0 0 0) 16 (μ.1 14).toNat (μ.1 8 + 1)).2 j i = if i = (μ.1 8 + 1).toNat then (if j = 3 then 2 else if j = 4 then 0 else if j = 5 then 0 else if j = 6 then 0 else if j = 7 then -1 else if j = 8 then -1 else if j = 9 then -1 else μ.1 9) else (mOp1 μ n).2 j i := fun j i j1 j2 => by
    rw [zA_2, if_neg (by omega), mNode_2, f8, f9]
    by_cases c : i = (μ.1 8 + 1).toNat
    · rw [if_pos c, if_pos c]
      have hc : j = 3 ∨ j = 4 ∨ j = 5 ∨ j = 6 ∨ j = 7 ∨ j = 8 ∨ j = 9 ∨ j = 10 ∨ j = 11 := by omega
      rcases hc with e | e | e | e | e | e | e | e | e <;> subst e <;> rfl
    · rw [if_neg c, if_neg c]
  have g7 : (zA (mNode (mOp1 μ n) 2 0 0 0) 16 (μ.1 14).toNat (μ.1 8 + 1)).2 7 (μ.1 8).toNat = -1 := by
    rw [ht 7 _ (by omega) (by omega), if_neg (by omega), m1 7 _ (by omega), if_neg (by omega), if_pos rfl]; rfl
  unfold mOpens
  rw [mAdd_2, g7, ht j i hj.1 hj.2]
  by_cases c : i = (μ.1 8).toNat
  · have hne : i ≠ (μ.1 8 + 1).toNat := by omega
    rw [if_neg hne, if_neg hne]
    by_cases e8 : j = 8
    · rw [if_pos ⟨e8, c⟩, if_pos ⟨c, Or.inr e8⟩]
    · by_cases e7 : j = 7
      · rw [if_neg (fun z => e8 z.1), if_pos ⟨e7, c, by decide⟩, if_pos ⟨c, Or.inl e7⟩]
      · rw [if_neg (fun z => e8 z.1), if_neg (fun z => e7 z.1), if_neg (fun z => z.2.2 (by decide)), if_neg (fun z => by rcases z.2 with q | q; exact e7 q; exact e8 q)]
  · rw [if_neg (show ¬ (j = 8 ∧ i = (μ.1 8).toNat) from fun z => c z.2), if_neg (show ¬ (j = 7 ∧ i = (μ.1 8).toNat ∧ (-1 : Int) < 0) from fun z => c z.2.1), if_neg (fun z => z.2.2 (by decide))]
    by_cases e : i = (μ.1 8 + 1).toNat
    · rw [if_pos e, if_pos e]
    · rw [if_neg e, if_neg e, if_neg (fun z => c z.1)]
theorem mOpens_1 {n : Int} : (mOpens μ n).1 8 = μ.1 8 + 2 ∧ ∀ j, j ≠ 8 → (mOpens μ n).1 j = μ.1 j := by
  obtain ⟨f8, f14, f9, fo⟩ := mOp1_f (μ := μ) (n := n)
  unfold mOpens
  rw [mAdd_1]
  refine ⟨?_, fun j h => ?_⟩
  · show (mOp1 μ n).1 8 + 1 = _
    rw [f8]; omega
  · show (if j = 8 then _ else (mOp1 μ n).1 j) = _
    rw [if_neg h, fo j h]
theorem mOpens_st {n : Int} : (mOpens μ n).2 14 = zupd (μ.2 14) (μ.1 14).toNat n ∧ (mOpens μ n).2 15 = zupd (μ.2 15) (μ.1 14).toNat (μ.1 8) ∧ (mOpens μ n).2 16 = zupd (μ.2 16) (μ.1 14).toNat (μ.1 8 + 1) := by
  unfold mOpens mOp1
  refine ⟨?_, ?_, ?_⟩
  · rw [mAdd_fr.2 14 (by simp), zA_2, if_neg (by omega), mNode_fr.2 14 (by simp), mAdd_fr.2 14 (by simp), zA_2, if_neg (by omega), mNode_fr.2 14 (by simp)]
    rfl
  · rw [mAdd_fr.2 15 (by simp), zA_2, if_neg (by omega), mNode_fr.2 15 (by simp), mAdd_fr.2 15 (by simp), zA_2, if_pos rfl, mNode_fr.2 15 (by simp)]
    rfl
  · rw [mAdd_fr.2 16 (by simp), zA_2, if_pos rfl, mNode_fr.2 16 (by simp), mAdd_fr.2 16 (by simp), zA_2, if_neg (by omega), mNode_fr.2 16 (by simp)]
    rfl
theorem mOpens_fr {n : Int} : fPM μ (mOpens μ n) := by
  unfold mOpens mOp1
  exact zfr_tr (zfr_A (zfr_tr (zfr_tr (zfr_A (zfr_tr (zfr_A zfr_rf (by simp)) (zfr_up mNode_fr (by simp) (by simp))) (by simp)) fPM_add) (zfr_up mNode_fr (by simp) (by simp))) (by simp)) fPM_add
end OPN
