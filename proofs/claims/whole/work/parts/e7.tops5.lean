section TM
variable {σ μ σ' μ' : z_S} {G G' : Nat → Int → Int} {n t : Int}
def Go (G : Nat → Int → Int) (n p d k num : Int) : Nat → Int → Int := fun j i =>
  if j = 0 then (if i = n then p else if i = n + 2 then p + 2 else G 0 i) else if j = 1 then (if i = n + 2 then p + 1 else G 1 i) else if j = 2 then (if i = n then d + 1 else if i = n + 2 then d + 2 else G 2 i) else
  if j = 3 then (if i = p ∨ i = p + 1 then n else if i = p + 2 then n + 2 else G 3 i) else if j = 4 then (if k = 12 ∧ i = num then n else G 4 i) else if j = 5 then (if 14 ≤ k ∧ i = num then n else G 5 i) else if j = 6 ∨ j = 7 then (if n ≤ i ∧ i ≤ n + 2 then 0 else G j i) else G j i
theorem pTest_no {en : Int → Int} (h : μ.2 3 n.toNat < 3 ∨ 11 < μ.2 3 n.toNat) : pTest σ μ en n := by
  unfold pTest
  refine ⟨fun q => ?_, fun q => ?_, fun q => ?_, fun q => ?_, fun q => ?_, fun q => ?_, fun q => ?_, fun q => ?_, fun q => ?_⟩ <;> omega
/-- kept from sight -/
def pHide (p : Prop) : Prop := p
theorem tOpen {k num : Int} (hn : pTn σ μ G) (hl : pTl σ μ G) (hk : 12 ≤ k ∧ k ≤ 15) (hd40 : μ.1 14 < 40) (hnum : (k = 12 → num = μ.1 9 + 1 ∧ μ'.1 9 = μ.1 9 + 1 ∧ μ.1 9 < 20) ∧ (k ≠ 12 → μ'.1 9 = μ.1 9) ∧ (14 ≤ k → num = σ.1 7 ∧ σ'.1 7 = σ.1 7 + 1) ∧ (k < 14 → σ'.1 7 = σ.1 7))
    (hs : ∀ j p, 1 ≤ j → j ≤ 4 → 0 ≤ p → p < σ.1 4 → σ'.2 j p.toNat = σ.2 j p.toNat) (hsn : σ'.2 1 (σ.1 4).toNat = 2 * k - 9 ∧ σ'.2 1 (σ.1 4 + 1).toNat = 2 * k - 8 ∧ σ'.2 1 (σ.1 4 + 2).toNat = 11 ∧ σ'.2 2 (σ.1 4).toNat = σ.1 4 + 2 ∧ σ'.2 2 (σ.1 4 + 1).toNat = 0 ∧ σ'.2 3 (σ.1 4).toNat = num ∧ σ'.2 3 (σ.1 4 + 1).toNat = num ∧ σ'.2 3 (σ.1 4 + 2).toNat = -1)
    (ha : ∀ j, 7 ≤ j → j ≤ 12 → σ'.2 j = σ.2 j) (hst : ∀ j i : Nat, 13 ≤ j → j ≤ 16 → i ≠ (μ.1 14).toNat → σ'.2 j i = σ.2 j i) (hsd : σ'.2 13 (μ.1 14).toNat = σ.1 4 ∧ σ'.2 14 (μ.1 14).toNat = σ.1 16 ∧ σ'.2 15 (μ.1 14).toNat = σ.1 15 ∧ σ'.2 16 (μ.1 14).toNat = σ.1 8)
    (hsf : σ'.1 4 = σ.1 4 + 3 ∧ σ'.1 6 = σ.1 6 ∧ σ'.1 8 = μ'.1 9 ∧ σ'.1 14 = μ.1 14 + 1 ∧ σ'.1 15 = σ.1 4 + 2 ∧ σ'.1 16 = σ.1 4 + 2)
    (hm : ∀ j m, 3 ≤ j → j ≤ 11 → 0 ≤ m → m < μ.1 8 → μ'.2 j m.toNat = μ.2 j m.toNat) (hmn : μ'.2 3 (μ.1 8).toNat = k ∧ μ'.2 3 (μ.1 8 + 1).toNat = 1 ∧ μ'.2 3 (μ.1 8 + 2).toNat = 2 ∧ (k = 12 → μ'.2 4 (μ.1 8).toNat = num) ∧ μ'.2 7 (μ.1 8).toNat = μ.1 8 + 1 ∧ μ'.2 7 (μ.1 8 + 1).toNat = μ.1 8 + 2 ∧ μ'.2 7 (μ.1 8 + 2).toNat = -1 ∧
      μ'.2 8 (μ.1 8 + 1).toNat = μ.1 8 + 2 ∧ μ'.2 8 (μ.1 8 + 2).toNat = -1 ∧ μ'.2 9 (μ.1 8).toNat = -1 ∧ μ'.2 9 (μ.1 8 + 2).toNat = -1 ∧ μ'.2 10 (μ.1 8).toNat = μ.1 9)
    (hmt : ∀ j i : Nat, 14 ≤ j → j ≤ 16 → i ≠ (μ.1 14 + 1).toNat → μ'.2 j i = μ.2 j i) (hmd : μ'.2 14 (μ.1 14 + 1).toNat = μ.1 8 ∧ μ'.2 15 (μ.1 14 + 1).toNat = μ.1 8 + 1 ∧ μ'.2 16 (μ.1 14 + 1).toNat = μ.1 8 + 2)
    (hmf : μ'.1 8 = μ.1 8 + 3 ∧ μ'.1 14 = μ.1 14 + 1 ∧ μ'.1 10 = μ.1 10) :
    pTn σ' μ' (Go G (μ.1 8) (σ.1 4) (μ.1 14) k num) ∧ pTl σ' μ' (Go G (μ.1 8) (σ.1 4) (μ.1 14) k num) := by
  obtain ⟨N1, N2, N3, N4, N5, N6, N7, N8⟩ := id hn.2.2.2.2.2
  obtain ⟨⟨d0, d1, d2⟩, hlv, hst2, c15, c16⟩ := id hl
  obtain ⟨n4, n6, n8, n14, n15, n16⟩ := hsf
  obtain ⟨v8, v14, v10⟩ := hmf
  have b4 := hmn.2.2.2.1
  have Hqd : ∀ x : Int, (if μ'.2 8 (μ.1 8 + 2).toNat < 0 then μ.1 8 + 2 else x) = μ.1 8 + 2 := fun x => if_pos (by have := hmn.2.2.2.2.2.2.2.2.1; omega)
  have Hs : pHide _ := hsn
  have Hm : pHide _ := hmn
  have Hd : pHide _ := hsd
  clear hsn hmn hsd
  obtain ⟨u1, u2, u3, u4⟩ := hnum
  have hm9 : μ.1 9 ≤ μ'.1 9 ∧ μ'.1 9 ≤ 20 := by
    by_cases z : k = 12
    · have := u1 z; omega
    · have := u2 z; omega
  have hs7 : σ.1 7 ≤ σ'.1 7 := by
    by_cases z : 14 ≤ k
    · have := u3 z; omega
    · have := u4 (by omega); omega
  have w1 : pHide (k = 12 → num = μ.1 9 + 1 ∧ μ'.1 9 = μ.1 9 + 1 ∧ μ.1 9 < 20) := u1
  have w3 : pHide (14 ≤ k → num = σ.1 7 ∧ σ'.1 7 = σ.1 7 + 1) := u3
  have w4 : pHide (k = 12 → μ'.2 4 (μ.1 8).toNat = num) := b4
  clear u1 u2 u3 u4 b4
  have hRR : μ.1 8 ≤ μ'.1 8 ∧ σ.1 4 ≤ σ'.1 4 ∧ σ.1 6 ≤ σ'.1 6 ∧ σ.1 7 ≤ σ'.1 7 ∧ μ.1 9 ≤ μ'.1 9 ∧ μ.1 10 ≤ μ'.1 10 := ⟨by omega, by omega, by omega, hs7, hm9.1, by omega⟩
  have hRR2 : σ'.1 8 = μ'.1 9 ∧ μ'.1 9 ≤ 20 := ⟨n8, hm9.2⟩
  have go : ∀ (j : Nat) m, 0 ≤ m → m < μ.1 8 → j = 0 ∨ j = 1 ∨ j = 2 ∨ j = 6 ∨ j = 7 → Go G (μ.1 8) (σ.1 4) (μ.1 14) k num j m = G j m := fun j m m0 m1 hj => by
    unfold Go
    rcases hj with e | e | e | e | e <;> subst e <;> simp <;> intros <;> omega
  have g3 : ∀ p, 0 ≤ p → p < σ.1 4 → Go G (μ.1 8) (σ.1 4) (μ.1 14) k num 3 p = G 3 p := fun p p0 p1 => by
    show (if p = σ.1 4 ∨ p = σ.1 4 + 1 then μ.1 8 else if p = σ.1 4 + 2 then μ.1 8 + 2 else G 3 p) = _
    rw [if_neg (by omega), if_neg (by omega)]
  have g3a : Go G (μ.1 8) (σ.1 4) (μ.1 14) k num 3 (σ.1 4) = μ.1 8 := by
    show (if σ.1 4 = σ.1 4 ∨ σ.1 4 = σ.1 4 + 1 then μ.1 8 else _) = _
    rw [if_pos (Or.inl rfl)]
  have g3b : Go G (μ.1 8) (σ.1 4) (μ.1 14) k num 3 (σ.1 4 + 1) = μ.1 8 := by
    show (if σ.1 4 + 1 = σ.1 4 ∨ σ.1 4 + 1 = σ.1 4 + 1 then μ.1 8 else _) = _
    rw [if_pos (Or.inr rfl)]
  have g3c : Go G (μ.1 8) (σ.1 4) (μ.1 14) k num 3 (σ.1 4 + 2) = μ.1 8 + 2 := by
    show (if σ.1 4 + 2 = σ.1 4 ∨ σ.1 4 + 2 = σ.1 4 + 1 then μ.1 8 else if σ.1 4 + 2 = σ.1 4 + 2 then μ.1 8 + 2 else _) = _
    rw [if_neg (by omega), if_pos rfl]
  have g4 : ∀ a, 1 ≤ a → a ≤ μ.1 9 → Go G (μ.1 8) (σ.1 4) (μ.1 14) k num 4 a = G 4 a := fun a _ h1 => by
    show (if k = 12 ∧ a = num then μ.1 8 else G 4 a) = _
    rw [if_neg (fun z => by have := (show k = 12 → _ from w1) z.1; omega)]
  have g4n : k = 12 → Go G (μ.1 8) (σ.1 4) (μ.1 14) k num 4 num = μ.1 8 := fun z => by
    show (if k = 12 ∧ num = num then μ.1 8 else G 4 num) = _
    rw [if_pos ⟨z, rfl⟩]
  have g5 : ∀ a, 0 ≤ a → a < σ.1 7 → Go G (μ.1 8) (σ.1 4) (μ.1 14) k num 5 a = G 5 a := fun a _ h1 => by
    show (if 14 ≤ k ∧ a = num then μ.1 8 else G 5 a) = _
    rw [if_neg (fun z => by have := (show 14 ≤ k → _ from w3) z.1; omega)]
  have g5n : 14 ≤ k → Go G (μ.1 8) (σ.1 4) (μ.1 14) k num 5 num = μ.1 8 := fun z => by
    show (if 14 ≤ k ∧ num = num then μ.1 8 else G 5 num) = _
    rw [if_pos ⟨z, rfl⟩]
  have g0a : Go G (μ.1 8) (σ.1 4) (μ.1 14) k num 0 (μ.1 8) = σ.1 4 := by
    show (if μ.1 8 = μ.1 8 then σ.1 4 else _) = _; rw [if_pos rfl]
  have g0c : Go G (μ.1 8) (σ.1 4) (μ.1 14) k num 0 (μ.1 8 + 2) = σ.1 4 + 2 := by
    show (if μ.1 8 + 2 = μ.1 8 then σ.1 4 else if μ.1 8 + 2 = μ.1 8 + 2 then σ.1 4 + 2 else _) = _; rw [if_neg (by omega), if_pos rfl]
  have g1c : Go G (μ.1 8) (σ.1 4) (μ.1 14) k num 1 (μ.1 8 + 2) = σ.1 4 + 1 := by
    show (if μ.1 8 + 2 = μ.1 8 + 2 then σ.1 4 + 1 else _) = _; rw [if_pos rfl]
  have g2a : Go G (μ.1 8) (σ.1 4) (μ.1 14) k num 2 (μ.1 8) = μ.1 14 + 1 := by
    show (if μ.1 8 = μ.1 8 then μ.1 14 + 1 else _) = _; rw [if_pos rfl]
  have g2c : Go G (μ.1 8) (σ.1 4) (μ.1 14) k num 2 (μ.1 8 + 2) = μ.1 14 + 2 := by
    show (if μ.1 8 + 2 = μ.1 8 then μ.1 14 + 1 else if μ.1 8 + 2 = μ.1 8 + 2 then μ.1 14 + 2 else _) = _; rw [if_neg (by omega), if_pos rfl]
  have g6 : ∀ i, μ.1 8 ≤ i → i ≤ μ.1 8 + 2 → Go G (μ.1 8) (σ.1 4) (μ.1 14) k num 6 i = 0 := fun i h0 h1 => by
    show (if μ.1 8 ≤ i ∧ i ≤ μ.1 8 + 2 then 0 else G 6 i) = _; rw [if_pos ⟨h0, h1⟩]
  have g7 : ∀ i, μ.1 8 ≤ i → i ≤ μ.1 8 + 2 → Go G (μ.1 8) (σ.1 4) (μ.1 14) k num 7 i = 0 := fun i h0 h1 => by
    show (if μ.1 8 ≤ i ∧ i ≤ μ.1 8 + 2 then 0 else G 7 i) = _; rw [if_pos ⟨h0, h1⟩]
  generalize Go G (μ.1 8) (σ.1 4) (μ.1 14) k num = G' at *
  generalize hd : μ.1 14 = d at *
  have hmo : ∀ j, 3 ≤ j → j ≤ 11 → ∀ m, 0 ≤ m → m < μ.1 8 → μ'.2 j m.toNat = μ.2 j m.toNat := fun j h1 h2 m m0 m1 => hm j m h1 h2 m0 m1
  have hkk : ∀ m, 0 ≤ m → m < μ.1 8 → μ'.2 3 m.toNat = μ.2 3 m.toNat ∧ G' 0 m = G 0 m ∧ G' 2 m = G 2 m ∧ (μ.2 3 m.toNat = 2 ∨ G 6 m = 1 → G' 1 m = G 1 m) ∧ (G 6 m = 1 → G' 6 m = 1) := fun m m0 m1 =>
    ⟨hm 3 m (by omega) (by omega) m0 m1, go 0 m m0 m1 (by omega), go 2 m m0 m1 (by omega), fun _ => go 1 m m0 m1 (by omega), fun e => by rw [go 6 m m0 m1 (by omega)]; exact e⟩
  have hlo : ∀ j, 0 ≤ j → j ≤ d → lvl μ' G' j := fun j j0 j1 => by
    have hj := hlv j j0 j1
    refine lvl_ag hj (by omega) ⟨hmt 14 _ (by omega) (by omega) (by omega), hmt 15 _ (by omega) (by omega) (by omega), hmt 16 _ (by omega) (by omega) (by omega)⟩ hkk ⟨hmo 7 (by omega) (by omega) _ hj.1.1 hj.1.2.1, hmo 8 (by omega) (by omega) _ hj.1.1 hj.1.2.1, hmo 9 (by omega) (by omega) _ hj.1.1 hj.1.2.1⟩ ⟨hmo 7 (by omega) (by omega) _ hj.2.1.1 hj.2.1.2.1, hmo 8 (by omega) (by omega) _ hj.2.1.1 hj.2.1.2.1⟩ (fun w => ?_) (fun w => ⟨go 7 _ (hj.2.2.2.2 w).1 (hj.2.2.2.2 w).2.1 (by omega), hmo 9 (by omega) (by omega) _ (hj.2.2.2.2 w).1 (hj.2.2.2.2 w).2.1⟩)
    rcases hj.2.2.1 with l | l
    · omega
    · exact hmo 9 (by omega) (by omega) _ w l.2.2.1
  have hqN : ∀ j, 0 ≤ j → j ≤ d → qN μ' j = qN μ j := fun j j0 j1 => by
    have hj := hlv j j0 j1
    exact qN_ag (hmt 16 _ (by omega) (by omega) (by omega)) (hmo 8 (by omega) (by omega) _ hj.1.1 hj.1.2.1)
  have hqd : qN μ' (d + 1) = μ.1 8 + 2 := by
    unfold qN
    rw [hmd.2.2]
    exact Hqd _
  constructor
  · refine tNewN (T := -1) (t := 0) hn hRR hRR2 hmo (fun p p0 p1 => ⟨hs 1 p (by omega) (by omega) p0 p1, fun _ => hs 2 p (by omega) (by omega) p0 p1, hs 3 p (by omega) (by omega) p0 p1, hs 4 p (by omega) (by omega) p0 p1⟩) (fun j h1 h2 i _ => by rw [ha j h1 h2]) (Or.inl (by omega)) (fun m m0 m1 => ⟨go 0 m m0 m1 (by omega), go 1 m m0 m1 (by omega), go 2 m m0 m1 (by omega), go 6 m m0 m1 (by omega), fun e => by rw [go 7 m m0 m1 (by omega)]; exact e⟩) g3 g4 g5 (fun n _ _ ⟨j, j0, j1, j2⟩ => ⟨j, j0, by omega, by rw [hqN j j0 (by omega)]; exact j2⟩) (fun n h0 h1 => ?_) (fun h => by omega) (fun p h0 h1 => ?_) (fun n h0 h1 z => ?_)
    · have e : n = μ.1 8 ∨ n = μ.1 8 + 1 ∨ n = μ.1 8 + 2 := by omega
      have hsn := Hs; unfold pHide at hsn; obtain ⟨a1, a2, a3, a4, a5, a6, a7, a8⟩ := hsn; have hmn := Hm; unfold pHide at hmn; obtain ⟨b1, b2, b3, -, b5, b6, b7, b8, b9, b10, b11, b12⟩ := hmn
      rcases e with e | e | e
      · subst e
        refine ⟨⟨by omega, by omega⟩, fun _ => ?_, ⟨?_, fun z => by omega⟩, fun z => by omega, fun z => by rw [g6 _ (by omega) (by omega)] at z; omega, fun _ _ => ?_, fun z => by omega⟩
        · have w : eW (μ'.2 3 (μ.1 8).toNat) = 2 := by unfold eW; rw [if_neg (by omega), if_pos (by omega)]
          rw [g0a, g2a, w]
          exact ⟨by omega, by omega, by omega, by omega, g3a, fun _ => g3b, fun z => by omega⟩
        · exact pTest_no (by omega)
        · unfold qPar
          rw [b5, b6, b1, b2, b3, g0a, g2a, g0c, g1c, g2c, a1, a2, a4, a6, a7, v8]
          refine ⟨rfl, rfl, rfl, ⟨by omega, by omega, rfl⟩, ⟨by omega, by omega, rfl, rfl, by omega⟩, rfl, fun z => ?_, fun z => ?_⟩
          · obtain ⟨y1, y2, y3⟩ := (show k = 12 → _ from w1) z
            rw [(show k = 12 → _ from w4) z, g4n z]
            exact ⟨rfl, by omega, by omega, rfl⟩
          · obtain ⟨y1, y2⟩ := (show 14 ≤ k → _ from w3) z
            rw [g5n z]
            exact ⟨by omega, by omega, rfl⟩
      · subst e
        refine ⟨⟨by omega, by omega⟩, fun z => by omega, ⟨?_, fun z => by omega⟩, fun z => by omega, fun z => by rw [g6 _ (by omega) (by omega)] at z; omega, fun _ _ => by omega, fun z => by omega⟩
        exact pTest_no (by omega)
      · subst e
        refine ⟨⟨by omega, by omega⟩, fun _ => ?_, ⟨?_, fun z => by omega⟩, fun _ => ⟨⟨?_, ?_, fun z => by omega, fun z => absurd ⟨d + 1, by omega, by omega, hqd.symm⟩ z, fun z => by omega⟩, ?_⟩, fun z => by rw [g6 _ (by omega) (by omega)] at z; omega, fun _ _ => by omega, fun z => by omega⟩
        · have w : eW (μ'.2 3 (μ.1 8 + 2).toNat) = 1 := by unfold eW; rw [if_neg (by omega), if_neg (by omega)]
          rw [g0c, g2c, w]
          exact ⟨by omega, by omega, by omega, by omega, g3c, fun _ => by omega, fun z => by omega⟩
        · exact pTest_no (by omega)
        · rw [g0c]; exact a3
        · rw [b11, if_pos (by omega), g0c]; exact a8
        · refine Or.inr ⟨μ.1 8, by omega, by omega, by omega, by omega, ?_, ?_⟩
          · rw [g1c, g0a]
          · rw [g2c, g2a]; omega
    · have e : p = σ.1 4 ∨ p = σ.1 4 + 1 ∨ p = σ.1 4 + 2 := by omega
      have hsn := Hs; unfold pHide at hsn; obtain ⟨a1, a2, a3, a4, a5, a6, a7, a8⟩ := hsn; have hmn := Hm; unfold pHide at hmn; obtain ⟨b1, b2, b3, -, b5, b6, b7, b8, b9, b10, b11, b12⟩ := hmn
      rcases e with e | e | e
      · subst e
        refine ⟨fun z => ?_, fun z => by omega⟩
        unfold pEnd at z; omega
      · subst e
        refine ⟨fun _ => ?_, fun z => by omega⟩
        rw [g3b, g2a, a5]
        refine ⟨⟨by omega, by omega, by omega, by omega⟩, ⟨by omega, by omega⟩, fun z => ?_⟩
        have h0 := hs 1 0 (by omega) (by omega) (by omega) (by omega)
        rw [show (0 : Int).toNat = 0 from rfl, hn.2.1.1] at h0
        unfold pEnd at z
        rw [show (0 : Int).toNat = 0 from rfl] at z
        omega
      · subst e
        refine ⟨fun z => ?_, fun z => by omega⟩
        unfold pEnd at z; omega
    · have e : n = μ.1 8 ∨ n = μ.1 8 + 1 ∨ n = μ.1 8 + 2 := by omega
      have hmn := Hm; unfold pHide at hmn
      rcases e with e | e | e <;> rw [e] at z
      · have := hmn.1; omega
      · have := hmn.2.1; omega
      · have := hmn.2.2.1; omega
  · refine ⟨⟨by omega, by omega, by omega⟩, fun j j0 j1 => ?_, fun j j0 j1 => ?_, ?_, ?_⟩
    · by_cases e : j = d + 1
      · subst e
        have hsn := Hs; unfold pHide at hsn; obtain ⟨a1, a2, a3, a4, a5, a6, a7, a8⟩ := hsn; have hmn := Hm; unfold pHide at hmn; obtain ⟨b1, b2, b3, -, b5, b6, b7, b8, b9, b10, b11, b12⟩ := hmn
        unfold lvl
        rw [hmd.1, hmd.2.1, hmd.2.2, b1, b2, b3, b6, b7, b8, b9, b10, b11, g1c, g2c, g2a, g0a, g7 _ (by omega) (by omega), v8]
        exact ⟨⟨by omega, by omega, rfl, by omega, by omega⟩, ⟨by omega, by omega, rfl, rfl, by omega⟩, Or.inl ⟨by omega, by omega⟩, fun z => by omega, fun _ => ⟨by omega, by omega, by omega, by omega, rfl, rfl, by omega, by omega⟩⟩
      · exact hlo j j0 (by omega)
    · by_cases e : j = d
      · subst e
        have hsd := Hd; unfold pHide at hsd; have hmn := Hm; unfold pHide at hmn; have b12 := hmn.2.2.2.2.2.2.2.2.2.2.2; clear hmn
        unfold stk
        have hj := hlv j j0 (by omega)
        have hq := qN_bd hj
        have hpx : pex μ' (G' 0) (qN μ j) = pex μ (G 0) (qN μ j) := by unfold pex; rw [(hkk _ hq.1 hq.2.1).1, (hkk _ hq.1 hq.2.1).2.1]
        rw [hsd.1, hsd.2.1, hsd.2.2.1, hsd.2.2.2, hmd.1, g0a, hqN j j0 (by omega), hpx, hmt 16 _ (by omega) (by omega) (by omega), go 0 _ hj.1.1 hj.1.2.1 (by omega), b12]
        exact ⟨rfl, c16, c15, N5, N6, N7⟩
      · have hj := hlv j j0 (by omega)
        have hj1 := hlv (j + 1) (by omega) (by omega)
        have ho := hj1.2.2.2.2 (by omega)
        exact stk_ag (hst2 j j0 (by omega)) hj hj1 j0 (fun m m0 m1 => ⟨(hkk m m0 m1).1, (hkk m m0 m1).2.1⟩) (hmo 10 (by omega) (by omega) _ ho.1 ho.2.1) ⟨hst 13 _ (by omega) (by omega) (by omega), hst 14 _ (by omega) (by omega) (by omega), hst 15 _ (by omega) (by omega) (by omega), hst 16 _ (by omega) (by omega) (by omega)⟩ (hmt 14 _ (by omega) (by omega) (by omega)) (hmt 16 _ (by omega) (by omega) (by omega)) (hmo 8 (by omega) (by omega) _ hj.1.1 hj.1.2.1)
    · rw [n15, v14, hmd.2.2, g0c]
    · have hmn := Hm; unfold pHide at hmn; have b3 := hmn.2.2.1; clear hmn
      rw [n16, v14, hqd]
      unfold pex
      rw [if_neg (by omega), g0c]
end TM
