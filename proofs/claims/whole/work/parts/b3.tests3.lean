/-- what both need to know of the text and of where they are -/
def zTx (σ μ : z_S) : Prop := σ.1 24 = μ.1 11 ∧ σ.1 26 = μ.1 7 ∧ 0 ≤ σ.1 26 ∧ σ.1 26 ≤ 600 ∧ 0 ≤ σ.1 24 ∧ σ.1 24 ≤ σ.1 26 ∧ (∀ i : Nat, σ.2 17 i = μ.2 2 i ∧ 0 ≤ μ.2 2 i ∧ μ.2 2 i ≤ 65535) ∧ σ.1 9 = μ.1 3 ∧ σ.1 10 = μ.1 4
/-- groups: what the class's cells say, and what the reference's row says -/
def zGR (c g : Nat → Int) (len : Int) : Prop := ∀ k : Nat, k ≤ 20 → c k = g (2 * k) ∧ (0 ≤ c k → c (21 + k) = g (2 * k + 1) ∧ c k ≤ c (21 + k) ∧ c (21 + k) ≤ len) ∧ (c k < 0 → g (2 * k + 1) = -1)
theorem zunit_e {N : Nat} {σ μ : z_S} {i : Int} (h : zTx σ μ) : zMachine_unitAt N i σ = some (if 0 ≤ i ∧ i < σ.1 26 then μ.2 2 i.toNat else -1, σ) := by
  obtain ⟨h1, h2, h3, h4, h5, h6, h7, h8, h9⟩ := h
  rw [zMachine_unitAt_u]
  by_cases a : i < 0
  · rw [if_pos a, if_neg (by omega)]
  · by_cases b : σ.1 26 ≤ i
    · rw [if_neg a, if_pos b, if_neg (by omega)]
    · rw [if_neg a, if_neg b, if_neg (by omega), if_pos ⟨by omega, by omega⟩, if_pos ⟨by omega, by omega⟩, (h7 i.toNat).1]
/-- the reference goes back to a group -/
theorem zref_loop {N : Nat} {σ μ : z_S} {f s : Int} (h : zTx σ μ) (hf : 0 ≤ f) (hs : s ≤ 600) (hfs : f + s ≤ σ.1 26) (ha : σ.1 24 + s ≤ σ.1 26) (hs0 : 0 ≤ s) : ∀ (n i : Nat), s.toNat + 1 ≤ i + n → (i : Int) ≤ s →
    ∃ b : Bool, zMod_refers_l48 N n f s (i : Int) μ = some (zb b, if b = true then zF μ 11 (μ.1 11 + s) else μ) ∧ zMachine_takesGroupAgain_l49 N n f s (i : Int) σ = some (zb b, if b = true then zF σ 24 (σ.1 24 + s) else σ) := by
  obtain ⟨h1, h2, h3, h4, h5, h6, h7, h8, h9⟩ := id h
  intro n
  induction n with
  | zero => intro i g1 g2; omega
  | succ n ih =>
    intro i g1 g2
    rw [zMod_refers_l48_s, zMachine_takesGroupAgain_l49_s]
    by_cases q : s ≤ (i : Int)
    · rw [if_pos q, if_pos q, if_pos ⟨by omega, by omega⟩, if_pos ⟨by omega, by omega⟩]
      exact ⟨true, rfl, rfl⟩
    · have r1 := h7 (f + (i : Int)).toNat
      have r2 := h7 (μ.1 11 + (i : Int)).toNat
      have A : (if s ≤ (i : Int) then (if zin (μ.1 11 + s) then some (1, zF μ 11 (μ.1 11 + s)) else none) else (if zin (f + (i : Int)) then if zIn (f + (i : Int)) 600 then if zin (μ.1 11 + (i : Int)) then if zIn (μ.1 11 + (i : Int)) 600 then (zMod_isSame N (μ.2 2 (f + (i : Int)).toNat) (μ.2 2 (μ.1 11 + (i : Int)).toNat) μ).bind fun q76 => if q76.1 = 0 then (some (0, q76.2)) else (if zin ((i : Int) + 1) then (zMod_refers_l48 N n) f s ((i : Int) + 1) q76.2 else none) else none else none else none else none)) = if (decide (μ.2 2 (f + (i : Int)).toNat = μ.2 2 (μ.1 11 + (i : Int)).toNat) || (!decide (μ.1 3 = 0) && decide (uU (μ.2 2 (f + (i : Int)).toNat) = uU (μ.2 2 (μ.1 11 + (i : Int)).toNat)))) = false then some (0, μ) else zMod_refers_l48 N n f s ((i : Int) + 1) μ := by
        rw [if_neg q, if_pos ⟨by omega, by omega⟩, if_pos ⟨by omega, by omega⟩, if_pos ⟨by omega, by omega⟩, if_pos ⟨by omega, by omega⟩, zsame_m ⟨by omega, by omega⟩ ⟨by omega, by omega⟩]
        simp only [Option.bind_some, zb_0]
        rw [if_pos (show zin ((i : Int) + 1) from ⟨by omega, by omega⟩)]
      rw [A, if_neg q, if_pos (show zin (f + (i : Int)) from ⟨by omega, by omega⟩), zunit_e h]
      simp only [Option.bind_some]
      rw [if_pos (show zin (σ.1 24 + (i : Int)) from ⟨by omega, by omega⟩), zunit_e h]
      simp only [Option.bind_some]
      rw [if_pos (show 0 ≤ f + (i : Int) ∧ f + (i : Int) < σ.1 26 by omega), if_pos (show 0 ≤ σ.1 24 + (i : Int) ∧ σ.1 24 + (i : Int) < σ.1 26 by omega), zsame_c ⟨by omega, by omega⟩ ⟨by rw [h1]; omega, by rw [h1]; omega⟩, h8, show (σ.1 24 + (i : Int)).toNat = (μ.1 11 + (i : Int)).toNat by rw [h1]]
      simp only [Option.bind_some, zb_0]
      by_cases c : (decide (μ.2 2 (f + (i : Int)).toNat = μ.2 2 (μ.1 11 + (i : Int)).toNat) || (!decide (μ.1 3 = 0) && decide (uU (μ.2 2 (f + (i : Int)).toNat) = uU (μ.2 2 (μ.1 11 + (i : Int)).toNat)))) = false
      · rw [if_pos c, if_pos c]
        exact ⟨false, rfl, rfl⟩
      · rw [if_neg c, if_neg c, if_pos (show zin ((i : Int) + 1) from ⟨by omega, by omega⟩)]
        obtain ⟨b, k1, k2⟩ := ih (i + 1) (by omega) (by omega)
        rw [show ((i + 1 : Nat) : Int) = (i : Int) + 1 by omega] at k1 k2
        exact ⟨b, k1, k2⟩
theorem zref_e {N : Nat} {σ μ : z_S} {k : Int} (hN : 700 ≤ N) (h : zTx σ μ) (hg : zGR (σ.2 18) (μ.2 17) (σ.1 26)) (h0 : 1 ≤ k) (h1 : k ≤ 20) :
    ∃ (b : Bool) (w : Int), zMod_refers N k μ = some (zb b, zF μ 11 w) ∧ zMachine_takesGroupAgain N k σ = some (zb b, zF σ 24 w) ∧ σ.1 24 ≤ w ∧ w ≤ σ.1 26 := by
  obtain ⟨t1, t2, t3, t4, t5, t6, t7, t8, t9⟩ := id h
  obtain ⟨g1, g2, g3⟩ := hg k.toNat (by omega)
  have e1 : (2 * k).toNat = 2 * k.toNat := by omega
  have e2 : (2 * k + 1).toNat = 2 * k.toNat + 1 := by omega
  have e3 : (0 + k).toNat = k.toNat := by omega
  have e4 : (21 + k).toNat = 21 + k.toNat := by omega
  rw [zMod_refers_u, zMachine_takesGroupAgain_u, if_pos (show zin (2 * k) from ⟨by omega, by omega⟩), if_pos (show zIn (2 * k) 42 from ⟨by omega, by omega⟩), if_pos (show zin (0 + k) from ⟨by omega, by omega⟩), zrr (by decide) (by omega) (by show 0 + k < 263; omega)]
  simp only [Option.bind_some, e1, e2, e3]
  rw [← g1]
  by_cases c : (0 : Int) ≤ σ.2 18 k.toNat
  · obtain ⟨p1, p2, p3⟩ := g2 c
    rw [if_pos c, if_pos c, if_pos (show zin (2 * k) from ⟨by omega, by omega⟩), if_pos (show zin (2 * k + 1) from ⟨by omega, by omega⟩), if_pos (show zIn (2 * k + 1) 42 from ⟨by omega, by omega⟩), if_pos (show zin (21 + k) from ⟨by omega, by omega⟩), zrr (by decide) (by omega) (by show 21 + k < 263; omega)]
    simp only [Option.bind_some, e4]
    rw [← p1, if_pos (show zin (σ.2 18 (21 + k.toNat) - σ.2 18 k.toNat) from ⟨by omega, by omega⟩), if_pos (show zin (μ.1 11 + (σ.2 18 (21 + k.toNat) - σ.2 18 k.toNat)) from ⟨by omega, by omega⟩), if_pos (show zin (σ.1 26 - σ.1 24) from ⟨by omega, by omega⟩)]
    try rw [if_pos (show zin (σ.2 18 (21 + k.toNat) - σ.2 18 k.toNat) from ⟨by omega, by omega⟩)]
    by_cases d : μ.1 11 + (σ.2 18 (21 + k.toNat) - σ.2 18 k.toNat) ≤ μ.1 7
    · rw [if_pos d, if_pos (show σ.2 18 (21 + k.toNat) - σ.2 18 k.toNat ≤ σ.1 26 - σ.1 24 by omega)]
      obtain ⟨b, k1, k2⟩ := zref_loop (N := N) (f := σ.2 18 k.toNat) (s := σ.2 18 (21 + k.toNat) - σ.2 18 k.toNat) h c (by omega) (by omega) (by omega) (by omega) N 0 (by omega) (by omega)
      rw [show ((0 : Nat) : Int) = 0 from rfl] at k1 k2
      rw [k1, k2]
      cases b with
      | true => exact ⟨true, σ.1 24 + (σ.2 18 (21 + k.toNat) - σ.2 18 k.toNat), by rw [t1]; rfl, rfl, by omega, by omega⟩
      | false => exact ⟨false, σ.1 24, by rw [t1, zF_id rfl]; rfl, by rw [zF_id rfl]; rfl, by omega, by omega⟩
    · rw [if_neg d, if_neg (show ¬ σ.2 18 (21 + k.toNat) - σ.2 18 k.toNat ≤ σ.1 26 - σ.1 24 by omega)]
      exact ⟨false, σ.1 24, by rw [t1, zF_id rfl]; rfl, by rw [zF_id rfl]; rfl, by omega, by omega⟩
  · rw [if_neg c, if_neg c, if_pos (show zin (μ.1 11 + 0) from ⟨by omega, by omega⟩), if_pos (show μ.1 11 + 0 ≤ μ.1 7 by omega)]
    obtain ⟨m, hm⟩ : ∃ m, N = m + 1 := ⟨N - 1, by omega⟩
    have : zMod_refers_l48 N N (σ.2 18 k.toNat) 0 0 μ = some (1, zF μ 11 (μ.1 11 + 0)) := by
      rw [show zMod_refers_l48 N N = zMod_refers_l48 N (m + 1) by rw [← hm], zMod_refers_l48_s, if_pos (by omega), if_pos ⟨by omega, by omega⟩]
    rw [this]
    exact ⟨true, σ.1 24, by rw [show μ.1 11 + 0 = σ.1 24 by omega]; rfl, by rw [zF_id rfl]; rfl, by omega, by omega⟩
theorem zwordat_m {N : Nat} {σ μ : z_S} {i : Int} (h : zTx σ μ) (hi : -1 ≤ i) (hi2 : i ≤ 600) : zMod_isWordAt N i μ = some (zb (if 0 ≤ i ∧ i < σ.1 26 then uW (μ.2 2 i.toNat) else false), μ) := by
  obtain ⟨t1, t2, t3, t4, t5, t6, t7, t8, t9⟩ := id h
  rw [zMod_isWordAt_u, if_pos ⟨by omega, by omega⟩, zm_in]
  simp only [Option.bind_some, zb_0]
  by_cases c : 0 ≤ i ∧ i < σ.1 26
  · rw [if_neg (by simp only [decide_eq_false_iff_not]; omega), if_pos ⟨by omega, by omega⟩, zm_isWord, if_pos c]
    simp only [Option.bind_some, zb_0, if_pos zB_0, if_pos zB_1]
    cases uW (μ.2 2 i.toNat) <;> rfl
  · rw [if_pos (by simp only [decide_eq_false_iff_not]; omega), if_neg c]
    rfl
theorem uW_m1 : uW (-1) = false := by decide
theorem uE_m1 : uE (-1) = false := by decide
theorem zwordat_c {N : Nat} {σ μ : z_S} {i : Int} (h : zTx σ μ) : (zMachine_unitAt N i σ).bind (fun q => zUnits_isWord N q.1 q.2) = some (zb (if 0 ≤ i ∧ i < σ.1 26 then uW (μ.2 2 i.toNat) else false), σ) := by
  rw [zunit_e h]
  simp only [Option.bind_some, zc_isWord]
  by_cases c : 0 ≤ i ∧ i < σ.1 26
  · rw [if_pos c, if_pos c]
  · rw [if_neg c, if_neg c, uW_m1]
/-- A TEST: both take it or both don't, and both stand at the same place behind it -/
theorem ztest {N : Nat} {σ μ : z_S} {en : Int → Int} {n : Int} (hN : 1000 ≤ N) (h : zTx σ μ) (hg : zGR (σ.2 18) (μ.2 17) (σ.1 26)) (hp : pTest σ μ en n) (hm : ∀ i : Nat, (i : Int) < μ.1 10 → pMem σ μ i) (hmm : μ.1 10 ≤ 200) (hr : μ.2 3 n.toNat = 7 → μ.2 4 n.toNat ≤ 20) (h0 : 0 ≤ n) (h1 : n < 1300) (he0 : 0 ≤ en n) (he : en n < 602) (k0 : 3 ≤ μ.2 3 n.toNat) (k1 : μ.2 3 n.toNat ≤ 11) :
    ∃ (b : Bool) (w : Int), zMod_holds N n μ = some (zb b, zF μ 11 w) ∧ σ.1 24 ≤ w ∧ w ≤ σ.1 26 ∧ 1 ≤ σ.2 1 (en n).toNat ∧ σ.2 1 (en n).toNat ≤ 10 ∧
      (σ.2 1 (en n).toNat ≤ 5 → zMachine_takesUnit N (σ.2 1 (en n).toNat) (σ.2 3 (en n).toNat) (en n) σ = some (zb b, zF σ 24 w)) ∧ (5 < σ.2 1 (en n).toNat → zMachine_passes N (σ.2 1 (en n).toNat) (σ.2 3 (en n).toNat) σ = some (zb b, zF σ 24 w)) := by
  obtain ⟨t1, t2, t3, t4, t5, t6, t7, t8, t9⟩ := id h
  obtain ⟨p3, p4, p5, p6, p7, p8, p9, p10, p11⟩ := hp
  have stay : zF μ 11 (σ.1 24) = μ ∧ zF σ 24 (σ.1 24) = σ := ⟨zF_id t1.symm, zF_id rfl⟩
  have hcase : μ.2 3 n.toNat = 3 ∨ μ.2 3 n.toNat = 4 ∨ μ.2 3 n.toNat = 5 ∨ μ.2 3 n.toNat = 6 ∨ μ.2 3 n.toNat = 7 ∨ μ.2 3 n.toNat = 8 ∨ μ.2 3 n.toNat = 9 ∨ μ.2 3 n.toNat = 10 ∨ μ.2 3 n.toNat = 11 := by omega
  have hut : (σ.1 24 = σ.1 26) ∨ (σ.1 24 < σ.1 26 ∧ 0 ≤ μ.2 2 (σ.1 24).toNat ∧ μ.2 2 (σ.1 24).toNat ≤ 65535) := by
    have := t7 (σ.1 24).toNat
    omega
  rw [zMod_holds_u, if_pos ⟨h0, by omega⟩, zMachine_takesUnit_u, zMachine_passes_u, zunit_e h]
  simp only [Option.bind_some]
  rcases hcase with k | k | k | k | k | k | k | k | k
  · obtain ⟨q1, q2, q3, q4⟩ := p3 k
    rw [k, q1, q2]
    rcases hut with e | ⟨e1, e2, e3⟩
    · rw [if_neg (show ¬ (0 ≤ σ.1 24 ∧ σ.1 24 < σ.1 26) by omega)]
      refine ⟨false, σ.1 24, ?_, by omega, by omega, by omega, by omega, fun _ => ?_, fun z => by omega⟩
      · rw [stay.1]; simp only [Int.reduceEq, if_false]; rw [if_pos (by omega)]; rfl
      · rw [stay.2, if_neg (by omega)]; rfl
    · rw [if_pos (show 0 ≤ σ.1 24 ∧ σ.1 24 < σ.1 26 by omega)]
      refine ⟨decide (μ.2 2 (σ.1 24).toNat = μ.2 4 n.toNat) || (!decide (μ.1 3 = 0) && decide (uU (μ.2 2 (σ.1 24).toNat) = uU (μ.2 4 n.toNat))), σ.1 24 + 1, ?_, by omega, by omega, by omega, by omega, fun _ => ?_, fun z => by omega⟩
      · simp only [Int.reduceEq, if_false, if_true]
        rw [if_neg (by omega), if_pos ⟨by omega, by omega⟩, if_pos ⟨by omega, by omega⟩, if_pos ⟨h0, by omega⟩, zsame_m ⟨by rw [← t1]; omega, by rw [← t1]; omega⟩ ⟨by rw [zF_2]; omega, by rw [zF_2]; omega⟩]
        simp only [Option.bind_some, if_pos (zb_B _), zF_1, zF_2, Nat.reduceEqDiff, if_false, ← t1]
      · simp only [if_true]
        rw [if_pos e2, if_pos ⟨by omega, by omega⟩, zsame_c ⟨by omega, by omega⟩ ⟨by omega, by omega⟩]
        simp only [Option.bind_some, if_pos (zb_B _), zF_1, Nat.reduceEqDiff, if_false, t8]
  · have q1 := p4 k
    rw [k, q1]
    rcases hut with e | ⟨e1, e2, e3⟩
    · rw [if_neg (show ¬ (0 ≤ σ.1 24 ∧ σ.1 24 < σ.1 26) by omega)]
      refine ⟨false, σ.1 24, ?_, by omega, by omega, by omega, by omega, fun _ => ?_, fun z => by omega⟩
      · rw [stay.1]; simp only [Int.reduceEq, if_false]; rw [if_pos (by omega)]; rfl
      · rw [stay.2, if_neg (by omega)]; rfl
    · rw [if_pos (show 0 ≤ σ.1 24 ∧ σ.1 24 < σ.1 26 by omega)]
      refine ⟨!uE (μ.2 2 (σ.1 24).toNat), σ.1 24 + 1, ?_, by omega, by omega, by omega, by omega, fun _ => ?_, fun z => by omega⟩
      · simp only [Int.reduceEq, if_false, if_true]
        rw [if_neg (by omega), if_pos ⟨by omega, by omega⟩, if_pos ⟨by omega, by omega⟩, zm_isLineEnd]
        simp only [Option.bind_some, zb_0, if_pos zB_0, if_pos zB_1, ← t1]
        cases uE (μ.2 2 (σ.1 24).toNat) <;> rfl
      · simp only [Int.reduceEq, if_false, if_true]
        rw [if_pos e2, if_pos ⟨by omega, by omega⟩, zc_isLineEnd]
        simp only [Option.bind_some, zb_0, if_pos zB_0, if_pos zB_1]
        cases uE (μ.2 2 (σ.1 24).toNat) <;> rfl
  · obtain ⟨q1, q2, q3⟩ := p5 k
    rw [k, q1, q2]
    rcases hut with e | ⟨e1, e2, e3⟩
    · rw [if_neg (show ¬ (0 ≤ σ.1 24 ∧ σ.1 24 < σ.1 26) by omega)]
      refine ⟨false, σ.1 24, ?_, by omega, by omega, by omega, by omega, fun _ => ?_, fun z => by omega⟩
      · rw [stay.1]; simp only [Int.reduceEq, if_false]; rw [if_pos (by omega)]; rfl
      · rw [stay.2, if_neg (by omega)]; rfl
    · rw [if_pos (show 0 ≤ σ.1 24 ∧ σ.1 24 < σ.1 26 by omega)]
      refine ⟨uS (μ.2 4 n.toNat) (μ.2 2 (σ.1 24).toNat), σ.1 24 + 1, ?_, by omega, by omega, by omega, by omega, fun _ => ?_, fun z => by omega⟩
      · simp only [Int.reduceEq, if_false, if_true]
        rw [if_neg (by omega), if_pos ⟨by omega, by omega⟩, if_pos ⟨by omega, by omega⟩, if_pos ⟨h0, by omega⟩, zF_2, zm_inSet q3]
        simp only [Option.bind_some, if_pos (zb_B _), ← t1]
      · simp only [Int.reduceEq, if_false, if_true]
        rw [if_pos e2, if_pos ⟨by omega, by omega⟩, zc_inSet q3]
        simp only [Option.bind_some, if_pos (zb_B _)]
  · obtain ⟨q1, q2, q3, q4, q5, q6⟩ := p6 k
    have hcK : σ.2 1 (en n).toNat = 4 ∨ σ.2 1 (en n).toNat = 5 := by omega
    rw [k, q2]
    rcases hut with e | ⟨e1, e2, e3⟩
    · rw [if_neg (show ¬ (0 ≤ σ.1 24 ∧ σ.1 24 < σ.1 26) by omega)]
      refine ⟨false, σ.1 24, ?_, by omega, by omega, by omega, by omega, fun _ => ?_, fun z => by omega⟩
      · rw [stay.1]; simp only [Int.reduceEq, if_false]; rw [if_pos (by omega)]; rfl
      · rw [stay.2, if_neg (by omega)]; rfl
    · rw [if_pos (show 0 ≤ σ.1 24 ∧ σ.1 24 < σ.1 26 by omega)]
      obtain ⟨bm, g1, g2⟩ := zhas_m (N := N) (μ := zF μ 11 (μ.1 11 + 1)) (x := n) (u := μ.2 2 (σ.1 24).toNat) (by omega) e2 e3 h0 h1 q4 q5 (by rw [zF_2]; omega) (fun i hi hh => ((hm i (by rw [zF_2] at hi; omega)).1 hh).1)
      obtain ⟨bc, f1, f2⟩ := zhas_c (N := N) (σ := zF σ 24 (σ.1 24 + 1)) (μ := zF μ 11 (μ.1 11 + 1)) (a := μ.2 4 n.toNat) (b := μ.2 5 n.toNat) (u := μ.2 2 (σ.1 24).toNat) (by omega) ⟨by omega, by omega⟩ q4 q5 (by omega) (fun i hi => hm i (by omega))
      have hbb : bm = bc := by
        have : (bm = true) ↔ (bc = true) := by
          rw [g2, f2]
          simp only [zF_1, zF_2, Nat.reduceEqDiff, if_false, t8]
        cases bm <;> cases bc <;> simp_all
      subst hbb
      have hN4 : (σ.2 4 (en n).toNat) = μ.2 5 n.toNat := q3
      rcases q1 with ⟨c1, c2⟩ | ⟨c1, c2⟩
      · refine ⟨bm, σ.1 24 + 1, ?_, by omega, by omega, by omega, by omega, fun _ => ?_, fun z => by omega⟩
        · simp only [Int.reduceEq, if_false]
          rw [if_neg (by omega), if_pos ⟨by omega, by omega⟩, if_pos ⟨by omega, by omega⟩, show σ.1 24 + 1 = μ.1 11 + 1 by rw [t1], show μ.2 2 (μ.1 11).toNat = μ.2 2 (σ.1 24).toNat by rw [t1], g1]
          simp only [Option.bind_some]
          rw [if_pos ⟨h0, by omega⟩, zF_2, if_pos c1]
          simp only [zb_1, if_pos zB_0, if_pos zB_1]
          cases bm <;> rfl
        · rw [c2]
          simp only [Int.reduceEq, if_false, if_true]
          rw [if_pos e2, if_pos ⟨by omega, by omega⟩, zrr (by decide) he0 (by show en n < 602; exact he)]
          simp only [Option.bind_some, zF_2, hN4]
          rw [f1]
          simp only [Option.bind_some, if_pos (zb_B _)]
      · refine ⟨!bm, σ.1 24 + 1, ?_, by omega, by omega, by omega, by omega, fun _ => ?_, fun z => by omega⟩
        · simp only [Int.reduceEq, if_false]
          rw [if_neg (by omega), if_pos ⟨by omega, by omega⟩, if_pos ⟨by omega, by omega⟩, show σ.1 24 + 1 = μ.1 11 + 1 by rw [t1], show μ.2 2 (μ.1 11).toNat = μ.2 2 (σ.1 24).toNat by rw [t1], g1]
          simp only [Option.bind_some]
          rw [if_pos ⟨h0, by omega⟩, zF_2, if_neg (by omega)]
          simp only [zb_0, if_pos zB_0, if_pos zB_1]
          cases bm <;> rfl
        · rw [c2]
          simp only [Int.reduceEq, if_false]
          rw [if_pos e2, if_pos ⟨by omega, by omega⟩, zrr (by decide) he0 (by show en n < 602; exact he)]
          simp only [Option.bind_some, zF_2, hN4]
          rw [f1]
          simp only [Option.bind_some, zb_0, if_pos zB_0, if_pos zB_1]
          cases bm <;> rfl
  · obtain ⟨q1, q2, q3, -⟩ := p7 k
    have hq := hr k
    have hF : σ.2 3 (en n).toNat = μ.2 4 n.toNat := by omega
    obtain ⟨b, w, r1, r2, r3, r4⟩ := zref_e (N := N) (k := μ.2 4 n.toNat) (by omega) h hg q3 hq
    rw [k, q1, hF]
    refine ⟨b, w, ?_, r3, r4, by omega, by omega, fun z => by omega, fun _ => ?_⟩
    · simp only [Int.reduceEq, if_false, if_true]
      rw [if_pos ⟨h0, by omega⟩, r1]
      simp only [Option.bind_some, if_pos (zb_B _)]
    · simp only [Int.reduceEq, if_false]
      rw [r2]
      simp only [Option.bind_some, if_pos (zb_B _)]
  · have q1 := p8 k
    rw [k, q1]
    refine ⟨decide (σ.1 24 = 0) || (!decide (σ.1 10 = 0) && uE (μ.2 2 (σ.1 24 - 1).toNat)), σ.1 24, ?_, by omega, by omega, by omega, by omega, fun z => by omega, fun _ => ?_⟩
    · rw [stay.1]
      simp only [if_true]
      by_cases c : μ.1 11 = 0
      · rw [if_pos c, if_pos zB_1]; simp [t1, c, zb]
      · rw [if_neg c]
        by_cases d : μ.1 4 = 0
        · rw [if_pos d, if_pos zB_0]; simp [t1, t9, c, d, zb]
        · rw [if_neg d, if_pos ⟨by omega, by omega⟩, if_pos ⟨by omega, by omega⟩, zm_isLineEnd]
          simp only [Option.bind_some, zb_0, if_pos zB_0, if_pos zB_1, t1, t9]
          cases uE (μ.2 2 (μ.1 11 - 1).toNat) <;> simp [c, d, zb]
    · rw [stay.2]
      simp only [if_true]
      by_cases c : σ.1 24 = 0
      · rw [if_pos c, if_pos zB_1]; simp [c, zb]
      · rw [if_neg c]
        by_cases d : σ.1 10 = 0
        · rw [if_pos d, if_pos zB_0]; simp [c, d, zb]
        · rw [if_neg d, if_pos ⟨by omega, by omega⟩, zunit_e h]
          simp only [Option.bind_some, zc_isLineEnd, zb_0, if_pos zB_0, if_pos zB_1]
          rw [if_pos (show 0 ≤ σ.1 24 - 1 ∧ σ.1 24 - 1 < σ.1 26 by omega)]
          cases uE (μ.2 2 (σ.1 24 - 1).toNat) <;> simp [c, d, zb]
  · have q1 := p9 k
    rw [k, q1]
    refine ⟨decide (σ.1 24 = σ.1 26) || (!decide (σ.1 10 = 0) && uE (μ.2 2 (σ.1 24).toNat)), σ.1 24, ?_, by omega, by omega, by omega, by omega, fun z => by omega, fun _ => ?_⟩
    · rw [stay.1]
      simp only [Int.reduceEq, if_false, if_true]
      by_cases c : μ.1 11 = μ.1 7
      · rw [if_pos c, if_pos zB_1]; simp [t1, t2, c, zb]
      · rw [if_neg c]
        by_cases d : μ.1 4 = 0
        · rw [if_pos d, if_pos zB_0]; simp [t1, t2, t9, c, d, zb]
        · rw [if_neg d, if_pos ⟨by omega, by omega⟩, zm_isLineEnd]
          simp only [Option.bind_some, zb_0, if_pos zB_0, if_pos zB_1, t1, t2, t9]
          cases uE (μ.2 2 (μ.1 11).toNat) <;> simp [c, d, zb]
    · rw [stay.2]
      simp only [Int.reduceEq, if_false, if_true]
      by_cases c : σ.1 24 = σ.1 26
      · rw [if_pos c, if_pos zB_1]; simp [c, zb]
      · rw [if_neg c]
        by_cases d : σ.1 10 = 0
        · rw [if_pos d, if_pos zB_0]; simp [c, d, zb]
        · rw [if_neg d]
          rw [if_pos (show 0 ≤ σ.1 24 ∧ σ.1 24 < σ.1 26 by omega)]
          simp only [zunit_e h, Option.bind_some, zc_isLineEnd, zb_0, if_pos zB_0, if_pos zB_1]
          cases uE (μ.2 2 (σ.1 24).toNat) <;> simp [c, d, zb]
  · have q1 := p10 k
    rw [k, q1]
    refine ⟨(if 0 ≤ σ.1 24 - 1 ∧ σ.1 24 - 1 < σ.1 26 then uW (μ.2 2 (σ.1 24 - 1).toNat) else false) != (if 0 ≤ σ.1 24 ∧ σ.1 24 < σ.1 26 then uW (μ.2 2 (σ.1 24).toNat) else false), σ.1 24, ?_, by omega, by omega, by omega, by omega, fun z => by omega, fun _ => ?_⟩
    · rw [stay.1]
      simp only [Int.reduceEq, if_false, if_true]
      rw [if_pos ⟨by omega, by omega⟩, ← t1, zwordat_m h (by omega) (by omega)]
      simp only [Option.bind_some]
      rw [← t1, zwordat_m h (by omega) (by omega)]
      simp only [Option.bind_some, if_pos zB_0, if_pos zB_1]
      generalize (if 0 ≤ σ.1 24 - 1 ∧ σ.1 24 - 1 < σ.1 26 then uW (μ.2 2 (σ.1 24 - 1).toNat) else false) = x1
      generalize (if 0 ≤ σ.1 24 ∧ σ.1 24 < σ.1 26 then uW (μ.2 2 (σ.1 24).toNat) else false) = x2
      cases x1 <;> cases x2 <;> rfl
    · rw [stay.2]
      simp only [Int.reduceEq, if_false, if_true]
      rw [if_pos ⟨by omega, by omega⟩]
      have w1 := zwordat_c (N := N) (i := σ.1 24 - 1) h
      have w2 := zwordat_c (N := N) (i := σ.1 24) h
      rw [zunit_e h] at w1 w2 ⊢
      simp only [Option.bind_some] at w1 w2 ⊢
      rw [w1]
      simp only [Option.bind_some]
      rw [zunit_e h]
      simp only [Option.bind_some]
      rw [w2]
      simp only [Option.bind_some, if_pos zB_0, if_pos zB_1]
      generalize (if 0 ≤ σ.1 24 - 1 ∧ σ.1 24 - 1 < σ.1 26 then uW (μ.2 2 (σ.1 24 - 1).toNat) else false) = x1
      generalize (if 0 ≤ σ.1 24 ∧ σ.1 24 < σ.1 26 then uW (μ.2 2 (σ.1 24).toNat) else false) = x2
      cases x1 <;> cases x2 <;> rfl
  · have q1 := p11 k
    rw [k, q1]
    refine ⟨(if 0 ≤ σ.1 24 - 1 ∧ σ.1 24 - 1 < σ.1 26 then uW (μ.2 2 (σ.1 24 - 1).toNat) else false) == (if 0 ≤ σ.1 24 ∧ σ.1 24 < σ.1 26 then uW (μ.2 2 (σ.1 24).toNat) else false), σ.1 24, ?_, by omega, by omega, by omega, by omega, fun z => by omega, fun _ => ?_⟩
    · rw [stay.1]
      simp only [Int.reduceEq, if_false, if_true]
      rw [if_pos ⟨by omega, by omega⟩, ← t1, zwordat_m h (by omega) (by omega)]
      simp only [Option.bind_some]
      rw [← t1, zwordat_m h (by omega) (by omega)]
      simp only [Option.bind_some, if_pos zB_0, if_pos zB_1]
      generalize (if 0 ≤ σ.1 24 - 1 ∧ σ.1 24 - 1 < σ.1 26 then uW (μ.2 2 (σ.1 24 - 1).toNat) else false) = x1
      generalize (if 0 ≤ σ.1 24 ∧ σ.1 24 < σ.1 26 then uW (μ.2 2 (σ.1 24).toNat) else false) = x2
      cases x1 <;> cases x2 <;> rfl
    · rw [stay.2]
      simp only [Int.reduceEq, if_false, if_true]
      rw [if_pos ⟨by omega, by omega⟩]
      have w1 := zwordat_c (N := N) (i := σ.1 24 - 1) h
      have w2 := zwordat_c (N := N) (i := σ.1 24) h
      rw [zunit_e h] at w1 w2 ⊢
      simp only [Option.bind_some] at w1 w2 ⊢
      rw [w1]
      simp only [Option.bind_some]
      rw [zunit_e h]
      simp only [Option.bind_some]
      rw [w2]
      simp only [Option.bind_some, if_pos zB_0, if_pos zB_1]
      generalize (if 0 ≤ σ.1 24 - 1 ∧ σ.1 24 - 1 < σ.1 26 then uW (μ.2 2 (σ.1 24 - 1).toNat) else false) = x1
      generalize (if 0 ≤ σ.1 24 ∧ σ.1 24 < σ.1 26 then uW (μ.2 2 (σ.1 24).toNat) else false) = x2
      cases x1 <;> cases x2 <;> rfl
