section TK
variable {σ μ σ' μ' : z_S} {G G' : Nat → Int → Int} {n t : Int}
def Gx (G : Nat → Int → Int) (n p w f l : Int) : Nat → Int → Int := fun j i =>
  if j = 0 then (if i = n then p else G 0 i) else if j = 1 then (if i = n then f else G 1 i) else if j = 2 then (if i = n then l else G 2 i) else if j = 3 then (if p ≤ i ∧ i < p + w then n else G 3 i) else if j = 6 ∨ j = 7 then (if i = n then 0 else G j i) else G j i
theorem Gx_n {p w f l : Int} : Gx G n p w f l 0 n = p ∧ Gx G n p w f l 1 n = f ∧ Gx G n p w f l 2 n = l ∧ Gx G n p w f l 6 n = 0 ∧ Gx G n p w f l 7 n = 0 := by
  refine ⟨?_, ?_, ?_, ?_, ?_⟩ <;> simp [Gx]
theorem Gx_o {p w f l : Int} {j : Nat} {i : Int} (h : i ≠ n) (hj : j ≠ 3) : Gx G n p w f l j i = G j i := by
  unfold Gx
  by_cases e0 : j = 0
  · subst e0; simp [h]
  · by_cases e1 : j = 1
    · subst e1; simp [h]
    · by_cases e2 : j = 2
      · subst e2; simp [h]
      · simp [e0, e1, e2, hj, h]
theorem Gx_3 {p w f l : Int} {i : Int} : Gx G n p w f l 3 i = if p ≤ i ∧ i < p + w then n else G 3 i := by simp [Gx]
theorem Gx_45 {p w f l : Int} {i : Int} : Gx G n p w f l 4 i = G 4 i ∧ Gx G n p w f l 5 i = G 5 i := by constructor <;> simp [Gx]
/-- a test -/
theorem tLeaf (hn : pTn σ μ G) (hl : pTl σ μ G) (hs : ∀ j i : Nat, 1 ≤ j → j ≤ 4 → i ≠ (σ.1 4).toNat → σ'.2 j i = σ.2 j i) (hs2 : ∀ j, 7 ≤ j → j ≤ 16 → σ'.2 j = σ.2 j) (hs1 : σ'.1 4 = σ.1 4 + 1 ∧ σ'.1 6 = σ.1 6 ∧ σ'.1 7 = σ.1 7 ∧ σ'.1 8 = σ.1 8 ∧ σ'.1 14 = σ.1 14 ∧ σ'.1 15 = σ.1 15 ∧ σ'.1 16 = σ.1 16)
    (hm : ∀ j i : Nat, 3 ≤ j → j ≤ 11 → i ≠ (μ.1 8).toNat → μ'.2 j i = μ.2 j i) (hm2 : ∀ j, 14 ≤ j → j ≤ 16 → μ'.2 j = μ.2 j) (hm1 : μ'.1 8 = μ.1 8 + 1 ∧ μ'.1 9 = μ.1 9 ∧ μ'.1 14 = μ.1 14 ∧ μ.1 10 ≤ μ'.1 10)
    (hk : 3 ≤ μ'.2 3 (μ.1 8).toNat ∧ μ'.2 3 (μ.1 8).toNat ≤ 11) (hpt : pTest σ' μ' (fun _ => σ.1 4) (μ.1 8)) (hb : μ'.2 3 (μ.1 8).toNat = 7 → σ'.2 4 (σ.1 4).toNat = μ'.2 5 (μ.1 8).toNat) (hb2 : σ'.2 1 (σ.1 4).toNat = 6 → μ'.2 3 (μ.1 8).toNat = 7) :
    pTn σ' μ' (Gx G (μ.1 8) (σ.1 4) 1 0 (μ.1 14 + 1)) ∧ pTl σ' μ' (Gx G (μ.1 8) (σ.1 4) 1 0 (μ.1 14 + 1)) := by
  obtain ⟨N1, N2, N3, N4, N5, N6, N7, N8⟩ := id hn.2.2.2.2.2
  obtain ⟨d0, d1, d2⟩ := id hl.1
  obtain ⟨n4, n6, n7, n8, n14, n15, n16⟩ := hs1
  obtain ⟨v8, v9, v14, v10⟩ := hm1
  obtain ⟨gn0, gn1, gn2, gn6, gn7⟩ := Gx_n (G := G) (n := μ.1 8) (p := σ.1 4) (w := 1) (f := 0) (l := μ.1 14 + 1)
  have go : ∀ j m, 0 ≤ m → m < μ.1 8 → j ≠ 3 → Gx G (μ.1 8) (σ.1 4) 1 0 (μ.1 14 + 1) j m = G j m := fun j m _ m1 hj => Gx_o (by omega) hj
  have g3 : ∀ i, Gx G (μ.1 8) (σ.1 4) 1 0 (μ.1 14 + 1) 3 i = if σ.1 4 ≤ i ∧ i < σ.1 4 + 1 then μ.1 8 else G 3 i := fun i => Gx_3
  have g45 : ∀ i, Gx G (μ.1 8) (σ.1 4) 1 0 (μ.1 14 + 1) 4 i = G 4 i ∧ Gx G (μ.1 8) (σ.1 4) 1 0 (μ.1 14 + 1) 5 i = G 5 i := fun i => Gx_45
  generalize Gx G (μ.1 8) (σ.1 4) 1 0 (μ.1 14 + 1) = G' at *
  have hmo : ∀ j, 3 ≤ j → j ≤ 11 → ∀ m, 0 ≤ m → m < μ.1 8 → μ'.2 j m.toNat = μ.2 j m.toNat := fun j h1 h2 m m0 m1 => hm j _ h1 h2 (by omega)
  obtain ⟨L1, L2, L3⟩ := tNewL (G' := G') hl (by omega) ⟨n14, v14, n15, n16⟩ hmo (fun j h1 h2 => hm2 j h1 h2) (fun j i h1 h2 => by rw [hs2 j (by omega) h2]) (fun m m0 m1 => ⟨go 0 m m0 m1 (by omega), go 1 m m0 m1 (by omega), go 2 m m0 m1 (by omega), go 6 m m0 m1 (by omega)⟩) (fun j j1 j2 => by
    have ho := (hl.2.1 j (by omega) j2).2.2.2.2 j1
    exact go 7 _ ho.1 ho.2.1 (by omega))
  obtain ⟨t3, t4, t5, t6, t7, t8, t9, t10, t11⟩ := id hpt
  dsimp only at t3 t4 t5 t6 t7 t8 t9 t10 t11
  have hk1 : 1 ≤ σ'.2 1 (σ.1 4).toNat ∧ σ'.2 1 (σ.1 4).toNat ≤ 10 := by
    have hc : μ'.2 3 (μ.1 8).toNat = 3 ∨ μ'.2 3 (μ.1 8).toNat = 4 ∨ μ'.2 3 (μ.1 8).toNat = 5 ∨ μ'.2 3 (μ.1 8).toNat = 6 ∨ μ'.2 3 (μ.1 8).toNat = 7 ∨ μ'.2 3 (μ.1 8).toNat = 8 ∨ μ'.2 3 (μ.1 8).toNat = 9 ∨ μ'.2 3 (μ.1 8).toNat = 10 ∨ μ'.2 3 (μ.1 8).toNat = 11 := by omega
    rcases hc with c | c | c | c | c | c | c | c | c
    · have := t3 c; omega
    · have := t4 c; omega
    · have := t5 c; omega
    · have := t6 c; omega
    · have := t7 c; omega
    · have := t8 c; omega
    · have := t9 c; omega
    · have := t10 c; omega
    · have := t11 c; omega
  refine ⟨tNewN (T := -1) (t := 0) hn (by omega) (by omega) hmo (fun p p0 p1 => ⟨hs 1 _ (by omega) (by omega) (by omega), fun _ => hs 2 _ (by omega) (by omega) (by omega), hs 3 _ (by omega) (by omega) (by omega), hs 4 _ (by omega) (by omega) (by omega)⟩) (fun j h1 h2 i _ => by rw [hs2 j h1 (by omega)]) (Or.inl (by omega)) (fun m m0 m1 => ⟨go 0 m m0 m1 (by omega), go 1 m m0 m1 (by omega), go 2 m m0 m1 (by omega), go 6 m m0 m1 (by omega), fun e => by rw [go 7 m m0 m1 (by omega)]; exact e⟩) (fun p p0 p1 => by rw [g3, if_neg (by omega)]) (fun a _ _ => (g45 a).1) (fun a _ _ => (g45 a).2) (fun n _ _ => L3 n) (fun n h0 h1 => ?_) (fun h => by omega) (fun p h0 h1 => ?_) (fun n h0 h1 _ => ?_), L1⟩
  · have e : n = μ.1 8 := by omega
    subst e
    refine ⟨⟨by omega, by omega⟩, fun _ => ?_, ⟨?_, fun z => by rw [gn0]; exact hb z⟩, fun z => by omega, fun z => by rw [gn6] at z; omega, fun z => by omega, fun z => by omega⟩
    · have w : eW (μ'.2 3 (μ.1 8).toNat) = 1 := by unfold eW; rw [if_neg (by omega), if_neg (by omega)]
      rw [gn0, gn2, w]
      exact ⟨by omega, by omega, by omega, by omega, by rw [g3, if_pos (by omega)], fun z => by omega, fun z => by omega⟩
    · unfold pTest
      rw [gn0]; exact hpt
  · have e : p = σ.1 4 := by omega
    subst e
    refine ⟨fun z => ?_, fun z => ?_⟩
    · unfold pEnd at z; omega
    · rw [g3, if_pos (by omega)]
      exact ⟨by omega, by omega, hb2 z, gn0⟩
  · have e : n = μ.1 8 := by omega
    rw [e, gn0]; exact ⟨Int.le_refl _, rfl⟩
/-- a repetition around an atom that nobody has taken -/
theorem tRep (hn : pTn σ μ G) (hl : pTl σ μ G) (t0 : 0 ≤ t) (t1 : t < μ.1 8) (tk : (3 ≤ μ.2 3 t.toNat ∧ μ.2 3 t.toNat ≤ 7) ∨ μ.2 3 t.toNat = 12 ∨ μ.2 3 t.toNat = 13) (t7 : G 7 t ≠ 1) (tlv : G 2 t = μ.1 14 + 1) (h6 : σ.1 6 < 100)
    (hs : ∀ p, 0 ≤ p → p < σ.1 4 → σ'.2 1 p.toNat = σ.2 1 p.toNat ∧ (p ≠ pex μ (G 0) t → σ'.2 2 p.toNat = σ.2 2 p.toNat) ∧ σ'.2 3 p.toNat = σ.2 3 p.toNat ∧ σ'.2 4 p.toNat = σ.2 4 p.toNat) (hsT : σ'.2 2 (pex μ (G 0) t).toNat = σ.1 4 + 2)
    (hsn : σ'.2 1 (σ.1 4).toNat = 12 ∧ σ'.2 1 (σ.1 4 + 1).toNat = 13 ∧ σ'.2 1 (σ.1 4 + 2).toNat = 14 ∧ σ'.2 3 (σ.1 4).toNat = σ.1 6 ∧ σ'.2 3 (σ.1 4 + 1).toNat = σ.1 6 ∧ σ'.2 3 (σ.1 4 + 2).toNat = σ.1 6 ∧ σ'.2 2 (σ.1 4 + 1).toNat = G 0 t)
    (ha : ∀ j, 7 ≤ j → j ≤ 12 → ∀ i : Nat, (i : Int) < σ.1 6 → σ'.2 j i = σ.2 j i) (hs2 : ∀ j, 13 ≤ j → j ≤ 16 → σ'.2 j = σ.2 j) (hs1 : σ'.1 4 = σ.1 4 + 3 ∧ σ'.1 6 = σ.1 6 + 1 ∧ σ'.1 7 = σ.1 7 ∧ σ'.1 8 = σ.1 8 ∧ σ'.1 14 = σ.1 14 ∧ σ'.1 15 = σ.1 15 ∧ σ'.1 16 = σ.1 16)
    (hm : ∀ j i : Nat, 3 ≤ j → j ≤ 11 → i ≠ (μ.1 8).toNat → μ'.2 j i = μ.2 j i) (hm2 : ∀ j, 14 ≤ j → j ≤ 16 → μ'.2 j = μ.2 j) (hm1 : μ'.1 8 = μ.1 8 + 1 ∧ μ'.1 9 = μ.1 9 ∧ μ'.1 14 = μ.1 14 ∧ μ'.1 10 = μ.1 10)
    (hmn : μ'.2 3 (μ.1 8).toNat = 16 ∧ μ'.2 7 (μ.1 8).toNat = t) (hrep : (0 ≤ μ'.2 4 (μ.1 8).toNat ∧ pBnd (σ'.2 7 (σ.1 6).toNat) (μ'.2 4 (μ.1 8).toNat) ∧ 0 ≤ μ'.2 5 (μ.1 8).toNat ∧ μ'.2 5 (μ.1 8).toNat ≤ 1000000 ∧ μ'.2 4 (μ.1 8).toNat ≤ 1000000 ∧ pBnd (σ'.2 8 (σ.1 6).toNat) (μ'.2 5 (μ.1 8).toNat)) ∧
      (σ'.2 9 (σ.1 6).toNat = μ'.2 6 (μ.1 8).toNat ∧ (μ'.2 6 (μ.1 8).toNat = 0 ∨ μ'.2 6 (μ.1 8).toNat = 1)) ∧ (σ'.2 10 (σ.1 6).toNat = μ'.2 10 (μ.1 8).toNat ∧ σ'.2 11 (σ.1 6).toNat = μ'.2 11 (μ.1 8).toNat ∧ 0 ≤ μ'.2 10 (μ.1 8).toNat ∧ μ'.2 11 (μ.1 8).toNat ≤ 20 ∧ μ'.2 10 (μ.1 8).toNat ≤ 20) ∧ σ'.2 12 (σ.1 6).toNat = σ.1 4) :
    ∃ G', pTn σ' μ' G' ∧ pTl σ' μ' G' ∧ G' 7 (μ.1 8) ≠ 1 ∧ G' 2 (μ.1 8) = μ.1 14 + 1 ∧ G' 0 (μ.1 8) = σ.1 4 ∧ ∀ m, 0 ≤ m → m < μ.1 8 → G' 0 m = G 0 m := by
  obtain ⟨N1, N2, N3, N4, N5, N6, N7, N8⟩ := id hn.2.2.2.2.2
  obtain ⟨d0, d1, d2⟩ := id hl.1
  obtain ⟨n4, n6, n7, n8, n14, n15, n16⟩ := hs1
  obtain ⟨v8, v9, v14, v10⟩ := hm1
  have hnt := hn.1 t t0 t1
  obtain ⟨y1, y2, y3, y4, y5, y6⟩ := en_bd hnt (by omega)
  have t6 : G 6 t ≠ 1 := fun z => t7 (hnt.2.2.2.2.1 z).2
  refine ⟨fun j i => if j = 7 ∧ i = t then 1 else Gx G (μ.1 8) (σ.1 4) 3 0 (μ.1 14 + 1) j i, ?_⟩
  obtain ⟨gn0, gn1, gn2, gn6, gn7⟩ := Gx_n (G := G) (n := μ.1 8) (p := σ.1 4) (w := 3) (f := 0) (l := μ.1 14 + 1)
  have hGj : ∀ (j : Nat) i, j ≠ 7 → (fun (j : Nat) (i : Int) => if j = 7 ∧ i = t then (1 : Int) else Gx G (μ.1 8) (σ.1 4) 3 0 (μ.1 14 + 1) j i) j i = Gx G (μ.1 8) (σ.1 4) 3 0 (μ.1 14 + 1) j i := fun j i hj => if_neg (fun z => hj z.1)
  have hG7 : ∀ i, i ≠ t → (fun (j : Nat) (i : Int) => if j = 7 ∧ i = t then (1 : Int) else Gx G (μ.1 8) (σ.1 4) 3 0 (μ.1 14 + 1) j i) 7 i = Gx G (μ.1 8) (σ.1 4) 3 0 (μ.1 14 + 1) 7 i := fun i hi => if_neg (fun z => hi z.2)
  have hG7t : (fun (j : Nat) (i : Int) => if j = 7 ∧ i = t then (1 : Int) else Gx G (μ.1 8) (σ.1 4) 3 0 (μ.1 14 + 1) j i) 7 t = 1 := if_pos ⟨rfl, rfl⟩
  have go : ∀ j m, 0 ≤ m → m < μ.1 8 → j ≠ 3 → j ≠ 7 → (fun (j : Nat) (i : Int) => if j = 7 ∧ i = t then (1 : Int) else Gx G (μ.1 8) (σ.1 4) 3 0 (μ.1 14 + 1) j i) j m = G j m := fun j m _ m1 hj hj7 => (hGj j m hj7).trans (Gx_o (by omega) hj)
  have g3 : ∀ i, (fun (j : Nat) (i : Int) => if j = 7 ∧ i = t then (1 : Int) else Gx G (μ.1 8) (σ.1 4) 3 0 (μ.1 14 + 1) j i) 3 i = if σ.1 4 ≤ i ∧ i < σ.1 4 + 3 then μ.1 8 else G 3 i := fun i => (hGj 3 i (by omega)).trans Gx_3
  have g45 : ∀ i, (fun (j : Nat) (i : Int) => if j = 7 ∧ i = t then (1 : Int) else Gx G (μ.1 8) (σ.1 4) 3 0 (μ.1 14 + 1) j i) 4 i = G 4 i ∧ (fun (j : Nat) (i : Int) => if j = 7 ∧ i = t then (1 : Int) else Gx G (μ.1 8) (σ.1 4) 3 0 (μ.1 14 + 1) j i) 5 i = G 5 i := fun i => ⟨(hGj 4 i (by omega)).trans Gx_45.1, (hGj 5 i (by omega)).trans Gx_45.2⟩
  have kn0 := (hGj 0 (μ.1 8) (by omega)).trans gn0
  have kn2 := (hGj 2 (μ.1 8) (by omega)).trans gn2
  have kn6 := (hGj 6 (μ.1 8) (by omega)).trans gn6
  have kn7 := (hG7 (μ.1 8) (by omega)).trans gn7
  have go7 : ∀ m, 0 ≤ m → m < μ.1 8 → m ≠ t → (fun (j : Nat) (i : Int) => if j = 7 ∧ i = t then (1 : Int) else Gx G (μ.1 8) (σ.1 4) 3 0 (μ.1 14 + 1) j i) 7 m = G 7 m := fun m _ m1 hm => (hG7 m hm).trans (Gx_o (by omega) (by omega))
  generalize (fun (j : Nat) (i : Int) => if j = 7 ∧ i = t then (1 : Int) else Gx G (μ.1 8) (σ.1 4) 3 0 (μ.1 14 + 1) j i) = G' at *
  have hmo : ∀ j, 3 ≤ j → j ≤ 11 → ∀ m, 0 ≤ m → m < μ.1 8 → μ'.2 j m.toNat = μ.2 j m.toNat := fun j h1 h2 m m0 m1 => hm j _ h1 h2 (by omega)
  obtain ⟨L1, L2, L3⟩ := tNewL (G' := G') hl (by omega) ⟨n14, v14, n15, n16⟩ hmo (fun j h1 h2 => hm2 j h1 h2) (fun j i h1 h2 => by rw [hs2 j h1 h2]) (fun m m0 m1 => ⟨go 0 m m0 m1 (by omega) (by omega), go 1 m m0 m1 (by omega) (by omega), go 2 m m0 m1 (by omega) (by omega), go 6 m m0 m1 (by omega) (by omega)⟩) (fun j j1 j2 => by
    have ho := (hl.2.1 j (by omega) j2).2.2.2.2 j1
    refine go7 _ ho.1 ho.2.1 (fun z => ?_)
    have := ho.2.2.2.2.1
    rw [z, tlv] at this; omega)
  obtain ⟨a1, a2, a3, a4, a5, a6, a7⟩ := hsn
  refine ⟨tNewN (T := pex μ (G 0) t) (t := t) hn (by omega) (by omega) hmo hs ha (Or.inr ⟨t0, t1, rfl, by omega, by omega, t7⟩) (fun m m0 m1 => ⟨go 0 m m0 m1 (by omega) (by omega), go 1 m m0 m1 (by omega) (by omega), go 2 m m0 m1 (by omega) (by omega), go 6 m m0 m1 (by omega) (by omega), fun e => ?_⟩) (fun p p0 p1 => by rw [g3, if_neg (by omega)]) (fun a _ _ => (g45 a).1) (fun a _ _ => (g45 a).2) (fun n _ _ => L3 n) (fun n h0 h1 => ?_) (fun T0 T1 => ?_) (fun p h0 h1 => ?_) (fun n h0 h1 z => ?_), L1, by rw [kn7]; omega, kn2, kn0, fun m m0 m1 => go 0 m m0 m1 (by omega) (by omega)⟩
  · by_cases z : m = t
    · rw [z]; exact hG7t
    · rw [go7 m m0 m1 z]; exact e
  · have e : n = μ.1 8 := by omega
    subst e
    obtain ⟨hr1, hr2, hr3, hr4⟩ := hrep
    have h16 := hmn.1
    have w : eW (μ'.2 3 (μ.1 8).toNat) = 3 := by unfold eW; rw [if_pos h16]
    refine ⟨⟨by omega, by omega⟩, fun _ => ?_, ⟨?_, fun z => by omega⟩, fun z => by omega, fun z => by rw [kn6] at z; omega, fun z z2 => by omega, fun _ => ⟨?_, ?_, ?_, ?_⟩⟩
    · rw [kn0, kn2, w]
      exact ⟨by omega, by omega, by omega, by omega, by rw [g3, if_pos (by omega)], fun z => by rw [g3, if_pos (by omega)], fun z => by rw [g3, if_pos (by omega)]⟩
    · unfold pTest
      refine ⟨fun q => ?_, fun q => ?_, fun q => ?_, fun q => ?_, fun q => ?_, fun q => ?_, fun q => ?_, fun q => ?_, fun q => ?_⟩ <;> omega
    · have hpx : pex μ' (G' 0) t = pex μ (G 0) t := by unfold pex; rw [hmo 3 (by omega) (by omega) t t0 t1, go 0 t t0 t1 (by omega) (by omega)]
      unfold pRep
      rw [kn0, kn2, a1, a2, a3, a4, a5, a6, a7, hmn.2, hpx, hsT, hr4, g3, if_pos (by omega), hmo 3 (by omega) (by omega) t t0 t1, go 0 t t0 t1 (by omega) (by omega), go 2 t t0 t1 (by omega) (by omega), tlv]
      exact ⟨rfl, rfl, rfl, rfl, ⟨by omega, by omega, rfl, rfl, rfl⟩, ⟨by omega, by omega, tk, rfl⟩, rfl, rfl, hr1, hr2, hr3⟩
    · rw [kn0, a4]; omega
    · rw [hmn.2]; exact hG7t
    · rw [hmn.2, go 6 t t0 t1 (by omega) (by omega)]; exact t6
  · intro hp
    have hp0 : pEnd σ (pex μ (G 0) t) := by unfold pEnd at hp ⊢; rw [(hs _ T0 T1).1] at hp; exact hp
    obtain ⟨w1, w2, w3⟩ := hn.2.2.1 _ T0 T1 hp0
    rw [hsT, g3, if_neg (by omega), y5, go 2 t t0 t1 (by omega) (by omega)]
    rw [y5] at w1
    refine ⟨⟨w1.1, w1.2.1, w1.2.2.1, by omega⟩, ⟨by omega, by omega⟩, fun z => ?_⟩
    unfold pEnd at z; omega
  · have e : p = σ.1 4 ∨ p = σ.1 4 + 1 ∨ p = σ.1 4 + 2 := by omega
    refine ⟨fun z => ?_, fun z => ?_⟩
    · unfold pEnd at z
      rcases e with e | e | e <;> rw [e] at z <;> omega
    · rcases e with e | e | e <;> rw [e] at z <;> omega
  · have e : n = μ.1 8 := by omega
    rw [e] at z; omega
end TK
