section TL
variable {σ μ σ' μ' : z_S} {G G' : Nat → Int → Int} {n t : Int}
/-- another alternative -/
theorem tBar (hn : pTn σ μ G) (hl : pTl σ μ G) (hs1 : ∀ i : Nat, σ'.2 1 i = if i = (σ.1 4).toNat then 11 else σ.2 1 i) (hs2 : ∀ i : Nat, i ≠ (σ.1 4).toNat → σ'.2 2 i = if i = (σ.1 16).toNat then G 1 (μ.2 16 (μ.1 14).toNat) else σ.2 2 i)
    (hs3 : ∀ i : Nat, σ'.2 3 i = if i = (σ.1 4).toNat then -1 else if i = (σ.1 15).toNat then σ.1 4 else σ.2 3 i) (hs4 : ∀ i : Nat, i ≠ (σ.1 4).toNat → σ'.2 4 i = σ.2 4 i) (hsj : ∀ j, 7 ≤ j → j ≤ 16 → σ'.2 j = σ.2 j)
    (hsf : σ'.1 4 = σ.1 4 + 1 ∧ σ'.1 6 = σ.1 6 ∧ σ'.1 7 = σ.1 7 ∧ σ'.1 8 = σ.1 8 ∧ σ'.1 14 = σ.1 14 ∧ σ'.1 15 = σ.1 4 ∧ σ'.1 16 = σ.1 4)
    (hmj : ∀ j i : Nat, 3 ≤ j → j ≤ 11 → j ≠ 8 → j ≠ 9 → i ≠ (μ.1 8).toNat → μ'.2 j i = μ.2 j i) (hm8 : ∀ i : Nat, i ≠ (μ.1 8).toNat → μ'.2 8 i = if i = (μ.2 15 (μ.1 14).toNat).toNat then μ.1 8 else μ.2 8 i) (hm9 : ∀ i : Nat, i ≠ (μ.1 8).toNat → μ'.2 9 i = if i = (μ.2 16 (μ.1 14).toNat).toNat then μ.1 8 else μ.2 9 i)
    (hmn : μ'.2 3 (μ.1 8).toNat = 2 ∧ μ'.2 7 (μ.1 8).toNat = -1 ∧ μ'.2 8 (μ.1 8).toNat = -1 ∧ μ'.2 9 (μ.1 8).toNat = -1) (hm16 : ∀ i : Nat, μ'.2 16 i = if i = (μ.1 14).toNat then μ.1 8 else μ.2 16 i) (hm14 : μ'.2 14 = μ.2 14 ∧ μ'.2 15 = μ.2 15)
    (hmf : μ'.1 8 = μ.1 8 + 1 ∧ μ'.1 9 = μ.1 9 ∧ μ'.1 14 = μ.1 14 ∧ μ'.1 10 = μ.1 10) :
    pTn σ' μ' (Gx G (μ.1 8) (σ.1 4) 1 (G 1 (μ.2 16 (μ.1 14).toNat)) (μ.1 14 + 1)) ∧ pTl σ' μ' (Gx G (μ.1 8) (σ.1 4) 1 (G 1 (μ.2 16 (μ.1 14).toNat)) (μ.1 14 + 1)) := by
  obtain ⟨N1, N2, N3, N4, N5, N6, N7, N8⟩ := id hn.2.2.2.2.2
  obtain ⟨⟨d0, d1, d2⟩, hlv, hst, c15, c16⟩ := id hl
  have hL := hlv (μ.1 14) d0 (Int.le_refl _)
  obtain ⟨⟨A0, A1, A2, A3, A4⟩, ⟨C0, C1, C2, C3, C4⟩, hLL, hf0, hO⟩ := id hL
  obtain ⟨q0, q1, q2, q3⟩ := qN_bd hL
  generalize hA : μ.2 16 (μ.1 14).toNat = A at *
  generalize hC : μ.2 15 (μ.1 14).toNat = C at *
  obtain ⟨n4, n6, n7, n8, n14, n15, n16⟩ := hsf
  obtain ⟨v8, v9, v14, v10⟩ := hmf
  obtain ⟨b3, b7, b8, b9⟩ := hmn
  obtain ⟨gn0, gn1, gn2, gn6, gn7⟩ := Gx_n (G := G) (n := μ.1 8) (p := σ.1 4) (w := 1) (f := G 1 A) (l := μ.1 14 + 1)
  have go : ∀ j m, 0 ≤ m → m < μ.1 8 → j ≠ 3 → Gx G (μ.1 8) (σ.1 4) 1 (G 1 A) (μ.1 14 + 1) j m = G j m := fun j m _ m1 hj => Gx_o (by omega) hj
  have g3 : ∀ i, Gx G (μ.1 8) (σ.1 4) 1 (G 1 A) (μ.1 14 + 1) 3 i = if σ.1 4 ≤ i ∧ i < σ.1 4 + 1 then μ.1 8 else G 3 i := fun i => Gx_3
  have g45 : ∀ i, Gx G (μ.1 8) (σ.1 4) 1 (G 1 A) (μ.1 14 + 1) 4 i = G 4 i ∧ Gx G (μ.1 8) (σ.1 4) 1 (G 1 A) (μ.1 14 + 1) 5 i = G 5 i := fun i => Gx_45
  generalize Gx G (μ.1 8) (σ.1 4) 1 (G 1 A) (μ.1 14 + 1) = G' at *
  generalize hd : μ.1 14 = d at *
  have hnq := hn.1 _ q0 q1
  have hnA := hn.1 A A0 A1
  have q2k : 2 ≤ μ.2 3 (qN μ d).toNat := by
    rcases q3 with e | e
    · omega
    · have := (hnq.2.2.2.2.1 e).1.1.1; omega
  obtain ⟨x1, x2, x3, x4, x5, x6⟩ := en_bd hnq q2k
  obtain ⟨z1, z2, z3, z4, z5, z6⟩ := en_bd hnA (by omega)
  have hqA : qN μ d = if μ.2 8 A.toNat < 0 then A else μ.2 8 A.toNat := by unfold qN; rw [hA]
  have T : σ.1 16 = pex μ (G 0) (qN μ d) := c16
  have CneA : C ≠ A := fun z => by rw [z] at C2; omega
  have m3 : ∀ m, 0 ≤ m → m < μ.1 8 → μ'.2 3 m.toNat = μ.2 3 m.toNat := fun m m0 m1 => hmj 3 _ (by omega) (by omega) (by omega) (by omega) (by omega)
  have m7 : ∀ m, 0 ≤ m → m < μ.1 8 → μ'.2 7 m.toNat = μ.2 7 m.toNat := fun m m0 m1 => hmj 7 _ (by omega) (by omega) (by omega) (by omega) (by omega)
  have m8 : ∀ m, 0 ≤ m → m < μ.1 8 → m ≠ C → μ'.2 8 m.toNat = μ.2 8 m.toNat := fun m m0 m1 hm => by rw [hm8 _ (by omega), if_neg (by omega)]
  have m9 : ∀ m, 0 ≤ m → m < μ.1 8 → m ≠ A → μ'.2 9 m.toNat = μ.2 9 m.toNat := fun m m0 m1 hm => by rw [hm9 _ (by omega), if_neg (by omega)]
  have m9A : μ'.2 9 A.toNat = μ.1 8 := by rw [hm9 _ (by omega), if_pos rfl]
  have hpx : ∀ m, 0 ≤ m → m < μ.1 8 → pex μ' (G' 0) m = pex μ (G 0) m := fun m m0 m1 => by unfold pex; rw [m3 m m0 m1, go 0 m m0 m1 (by omega)]
  have hk : ∀ m, 0 ≤ m → m < μ.1 8 → μ'.2 3 m.toNat = μ.2 3 m.toNat ∧ G' 0 m = G 0 m ∧ G' 2 m = G 2 m ∧ (μ.2 3 m.toNat = 1 → μ'.2 7 m.toNat = μ.2 7 m.toNat) ∧ (μ.2 3 m.toNat = 2 ∨ G 6 m = 1 → G' 1 m = G 1 m) ∧ (G 6 m = 1 → G' 6 m = 1) ∧ (G 7 m = 1 → G' 7 m = 1) := fun m m0 m1 =>
    ⟨m3 m m0 m1, go 0 m m0 m1 (by omega), go 2 m m0 m1 (by omega), fun _ => m7 m m0 m1, fun _ => go 1 m m0 m1 (by omega), fun e => by rw [go 6 m m0 m1 (by omega)]; exact e, fun e => by rw [go 7 m m0 m1 (by omega)]; exact e⟩
  have hAj : ∀ j, 0 ≤ j → j < d → μ.2 16 j.toNat ≠ A ∧ μ.2 15 j.toNat ≠ C ∧ μ.2 16 j.toNat ≠ C ∧ μ.2 15 j.toNat ≠ A := fun j j0 j1 => by
    have hj := hlv j j0 (by omega)
    have h1 : μ.2 16 j.toNat ≠ A := fun z => by have := hj.1.2.2.2.1; rw [z, A3] at this; omega
    refine ⟨h1, fun z => h1 ?_, fun z => ?_, fun z => ?_⟩
    · have := hj.2.1.2.2.2.1; rw [z, C3] at this; exact this.symm
    · have := hj.1.2.2.1; rw [z] at this; omega
    · have := hj.2.1.2.2.1; rw [z] at this; omega
  have hqN : ∀ j, 0 ≤ j → j < d → qN μ' j = qN μ j := fun j j0 j1 => by
    have hj := hlv j j0 (by omega)
    exact qN_ag (by rw [hm16, if_neg (by omega)]) (m8 _ hj.1.1 hj.1.2.1 (hAj j j0 j1).2.2.1)
  have hqd : qN μ' d = μ.1 8 := by
    unfold qN
    rw [hm16, if_pos rfl, b8, if_pos (by omega)]
  have hfin : ∀ m, G' 1 m = G 1 m → G' 2 m = G 2 m → pFin μ (G 0) (G 1) (G 2) m → pFin μ' (G' 0) (G' 1) (G' 2) m := fun m e e2 hf => by
    unfold pFin at hf ⊢
    rw [e, e2]
    rcases hf with f | ⟨P, p0, p1, p2, p3, p4, p5⟩
    · exact Or.inl f
    · exact Or.inr ⟨P, p0, by omega, by rw [m3 P p0 p1]; exact p2, by rw [m3 P p0 p1]; exact p3, by rw [go 0 P p0 p1 (by omega)]; exact p4, by rw [go 2 P p0 p1 (by omega)]; exact p5⟩
  have gA1 : G' 1 A = G 1 A := go 1 A A0 A1 (by omega)
  have gA2 : G' 2 A = G 2 A := go 2 A A0 A1 (by omega)
  obtain ⟨⟨u1, u2, u3, u4, u5⟩, u6⟩ := hnA.2.2.2.1 A2
  have hen15 : (σ.1 15).toNat = (G 0 A).toNat := by rw [c15]
  constructor
  · refine pTn_gen (T := σ.1 16) hn (by omega) (by omega) hk (fun p p0 p1 => by rw [g3, if_neg (by omega)]) (fun p p0 p1 => ⟨by rw [hs1, if_neg (by omega)], fun z => by rw [hs2 _ (by omega), if_neg (by omega)]⟩) (fun j j1 j2 i _ => by rw [hsj j j1 (by omega)]) (fun a _ _ => (g45 a).1) (fun a _ _ => (g45 a).2) (fun n n0 n1 => ?_) (fun n n0 n1 => ?_) (fun T0 T1 => ?_) (fun p p0 p1 => ?_) (fun n n0 n1 z => ?_)
    · by_cases e1 : n = qN μ d ∨ n = A
      · left
        have hnn := hn.1 n n0 n1
        have hcase : (n = A ∧ (n = qN μ d ↔ μ.2 8 A.toNat < 0)) ∨ (n ≠ A ∧ n = qN μ d ∧ G 6 n = 1 ∧ n = μ.2 8 A.toNat ∧ G 1 n = G 1 A ∧ μ.2 9 n.toNat < 0) := by
          by_cases eA : n = A
          · left
            refine ⟨eA, fun z => ?_, fun z => by rw [hqA, if_pos z]; exact eA⟩
            rcases hLL with l | ⟨l1, l2, l3, l4, -⟩
            · exact l.2
            · rw [hqA, if_neg (by omega)] at z
              rw [← z, eA] at l4
              have := (hnA.2.2.2.2.1 l4).1.1.1; omega
          · right
            have e2 : n = qN μ d := by rcases e1 with e | e; exact e; exact absurd e eA
            rcases hLL with l | ⟨l1, l2, l3, l4, l5, l6, l7⟩
            · rw [hqA, if_pos l.2] at e2; exact absurd e2 eA
            · rw [hqA, if_neg (by omega)] at e2
              rw [← e2] at l4 l5 l7
              exact ⟨eA, by rw [hqA, if_neg (by omega)]; exact e2, l4, e2, l5, l7⟩
        refine pNq_ag2 hnn n0 n1 (by omega) hk ⟨hmj 4 _ (by omega) (by omega) (by omega) (by omega) (by omega), hmj 5 _ (by omega) (by omega) (by omega) (by omega) (by omega), hmj 6 _ (by omega) (by omega) (by omega) (by omega) (by omega), fun _ => m7 n n0 n1, fun _ => ⟨hmj 10 _ (by omega) (by omega) (by omega) (by omega) (by omega), hmj 11 _ (by omega) (by omega) (by omega) (by omega) (by omega)⟩⟩ (fun z w => ?_) (fun p p0 p1 => by rw [g3, if_neg (by omega)]) (fun p p0 p1 pn => ⟨by rw [hs1, if_neg (by omega)], fun z => ?_, fun z => ?_, hs4 _ (by omega)⟩) (fun z => ?_) (fun j j1 j2 i _ => by rw [hsj j j1 (by omega)]) (fun a _ _ => (g45 a).1) (fun a _ _ => (g45 a).2) (fun z => ?_) (fun z => ?_)
        · have hfr := (hnn.2.2.2.2.2.2 z).1.2.2.2.2.2.1
          rw [go 6 _ hfr.1 hfr.2.1 (by omega)] at w; exact w
        · rw [hs2 _ (by omega), if_neg]
          intro w
          have e2 : p = σ.1 16 := by omega
          rw [e2, T, x5] at pn
          rw [e2, T, pn] at z
          unfold pex at z
          rw [← pn] at z
          split at z <;> omega
        · rw [hs3, if_neg (by omega), if_neg]
          intro w
          have e2 : p = G 0 A := by omega
          rw [e2, z6] at pn
          rw [← pn] at z; exact z A2
        · have hrep := hnn.2.2.2.2.2.2 z
          have hfr := hrep.1.2.2.2.2.2.1
          have hb := en_bd (hn.1 _ hfr.1 hfr.2.1) (by omega)
          rw [hs2 _ (by omega), if_neg]
          intro e
          have e2 : pex μ (G 0) (μ.2 7 n.toNat) = σ.1 16 := by omega
          rw [T] at e2
          have e3 := hb.2.2.2.2.1
          rw [e2, x5] at e3
          rcases q3 with w | w
          · rw [e3] at w; omega
          · rw [e3] at w; exact hrep.2.2.2 w
        · rcases hcase with ⟨eA, hq⟩ | ⟨eA, -, h6, -⟩
          · subst eA
            refine ⟨⟨by rw [go 0 n A0 A1 (by omega), hs1, if_neg (by omega)]; exact u1, ?_, fun _ => ?_, fun w => ?_, fun w => ?_⟩, hfin n gA1 gA2 u6⟩
            · rw [go 0 n A0 A1 (by omega), m9A, if_neg (by omega), gn0, hs3, if_neg (by omega), if_pos hen15.symm]
            · rw [m9A, b3, gn1, gn2, gA1, gA2, A3]
              exact ⟨by omega, rfl, rfl, rfl⟩
            · rw [go 0 n A0 A1 (by omega), m7 n A0 A1, gA1]
              by_cases c : n = qN μ d
              · have hl8 := hq.mp c
                have hl7 : μ.2 7 n.toNat < 0 := by rcases hLL with l | l <;> omega
                have hpA : pex μ (G 0) n = G 0 n := by unfold pex; rw [if_neg (by omega)]
                rw [← c, hpA] at T
                rw [if_pos hl7, hs2 _ (by omega), if_pos (by rw [T])]
              · have hl7 : ¬ μ.2 7 n.toNat < 0 := by
                  rcases hLL with l | l
                  · exact absurd (hq.mpr l.2) c
                  · omega
                have hQ0 : ¬ Qp μ n := fun ⟨j, j0, j1, j2⟩ => by
                  by_cases ej : j = d
                  · exact c (by rw [j2, ej])
                  · have := qN_bd (hlv j j0 (by omega))
                    rw [← j2, A3] at this
                    omega
                have hu := u4 hQ0
                rw [if_neg hl7] at hu ⊢
                rw [hs2 _ (by omega), if_neg, hu]
                · have hf := u5 (by omega)
                  rw [go 0 _ (by omega) hf.1 (by omega)]
                · intro w2
                  have e2 : G 0 n = σ.1 16 := by omega
                  rw [T] at e2
                  have := x5
                  rw [← e2, z6] at this
                  exact c this
            · rw [m7 n A0 A1] at w ⊢
              obtain ⟨f1, f2, f3, f4⟩ := u5 w
              rw [go 6 _ w f1 (by omega), go 1 _ w f1 (by omega), go 2 _ w f1 (by omega), gA1, gA2]
              exact ⟨by omega, f2, f3, f4⟩
          · have := (hnn.2.2.2.2.1 h6).1.1.1; omega
        · rw [go 6 n n0 n1 (by omega)] at z
          rcases hcase with ⟨eA, hq⟩ | ⟨eA, eq, h6, eL, f1, f9⟩
          · rw [eA] at z
            have := (hnA.2.2.2.2.1 z).1.1.1; omega
          · obtain ⟨⟨⟨w1, w2, w3⟩, w4⟩, w5⟩ := hnn.2.2.2.2.1 z
            refine ⟨⟨⟨by rw [m3 n n0 n1]; exact w1, fun _ => ?_, fun w => ?_⟩, hfin n (go 1 n n0 n1 (by omega)) (go 2 n n0 n1 (by omega)) w4⟩, by rw [go 7 n n0 n1 (by omega)]; exact w5⟩
            · rw [hpx n n0 n1, m9 n n0 n1 eA, if_pos f9, go 1 n n0 n1 (by omega), f1]
              rw [← eq] at T x4
              rw [hs2 _ (by omega), if_pos (by rw [T])]
            · rw [m9 n n0 n1 eA] at w; omega
      · right
        have hq1 : n ≠ qN μ d := fun z => e1 (Or.inl z)
        have hA1 : n ≠ A := fun z => e1 (Or.inr z)
        refine ⟨⟨hmj 4 _ (by omega) (by omega) (by omega) (by omega) (by omega), hmj 5 _ (by omega) (by omega) (by omega) (by omega) (by omega), hmj 6 _ (by omega) (by omega) (by omega) (by omega) (by omega), m7 n n0 n1, m9 n n0 n1 hA1, fun _ => ⟨hmj 10 _ (by omega) (by omega) (by omega) (by omega) (by omega), hmj 11 _ (by omega) (by omega) (by omega) (by omega) (by omega)⟩⟩, ⟨fun z => by rw [go 6 n n0 n1 (by omega)] at z; exact z, fun ⟨j, j0, j1, j2⟩ => ?_, fun z w => ?_⟩, fun p p0 p1 pn => ⟨fun _ w => ?_, ?_, hs4 _ (by omega)⟩, fun z w => ?_⟩
        · rw [hd] at j1
          have : j ≠ d := fun w => hq1 (by rw [j2, w])
          exact ⟨j, j0, by omega, by rw [hqN j j0 (by omega)]; exact j2⟩
        · have hfr := ((hn.1 n n0 n1).2.2.2.2.2.2 z).1.2.2.2.2.2.1
          rw [go 6 _ hfr.1 hfr.2.1 (by omega)] at w; exact w
        · rw [w, T, x5] at pn
          exact hq1 pn.symm
        · rw [hs3, if_neg (by omega), if_neg]
          intro w
          have e2 : p = G 0 A := by omega
          rw [e2, z6] at pn
          exact hA1 pn.symm
        · have hrep := (hn.1 n n0 n1).2.2.2.2.2.2 z
          have hfr := hrep.1.2.2.2.2.2.1
          have hb := en_bd (hn.1 _ hfr.1 hfr.2.1) (by omega)
          rw [T] at w
          have e3 := hb.2.2.2.2.1
          rw [w, x5] at e3
          rcases q3 with v | v
          · rw [e3] at v; omega
          · rw [e3] at v; exact hrep.2.2.2 v
    · have e : n = μ.1 8 := by omega
      subst e
      refine ⟨⟨by omega, by omega⟩, fun _ => ?_, ⟨?_, fun z => by omega⟩, fun _ => ⟨⟨?_, ?_, fun z => by omega, fun z => absurd ⟨d, d0, by omega, hqd.symm⟩ z, fun z => by omega⟩, ?_⟩, fun z => by rw [gn6] at z; omega, fun z => by omega, fun z => by omega⟩
      · have w : eW (μ'.2 3 (μ.1 8).toNat) = 1 := by unfold eW; rw [if_neg (by omega), if_neg (by omega)]
        rw [gn0, gn2, w]
        exact ⟨by omega, by omega, by omega, by omega, by rw [g3, if_pos (by omega)], fun z => by omega, fun z => by omega⟩
      · unfold pTest
        refine ⟨fun q => ?_, fun q => ?_, fun q => ?_, fun q => ?_, fun q => ?_, fun q => ?_, fun q => ?_, fun q => ?_, fun q => ?_⟩ <;> omega
      · rw [gn0, hs1, if_pos rfl]
      · rw [gn0, b9, if_pos (by omega), hs3, if_pos rfl]
      · unfold pFin at u6 ⊢
        rw [gn1, gn2, ← A3]
        rcases u6 with f | ⟨P, p0, p1, p2, p3, p4, p5⟩
        · exact Or.inl f
        · exact Or.inr ⟨P, p0, by omega, by rw [m3 P p0 p1]; exact p2, by rw [m3 P p0 p1]; exact p3, by rw [go 0 P p0 p1 (by omega)]; exact p4, by rw [go 2 P p0 p1 (by omega)]; exact p5⟩
    · intro hp
      have hp0 : pEnd σ (σ.1 16) := by unfold pEnd at hp ⊢; rw [hs1, if_neg (by omega)] at hp; exact hp
      obtain ⟨w1, w2, w3⟩ := hn.2.2.1 _ T0 T1 hp0
      rw [hs2 _ (by omega), if_pos rfl, g3, if_neg (by omega)]
      rw [T, x5] at w1 ⊢
      rw [go 2 _ q0 q1 (by omega)]
      rcases u6 with ⟨f1, f2⟩ | ⟨P, p0, p1, p2, p3, p4, p5⟩
      · rw [f1]
        refine ⟨⟨w1.1, w1.2.1, w1.2.2.1, by omega⟩, ⟨by omega, by omega⟩, fun z => ?_⟩
        unfold pEnd at z
        rw [hs1, if_neg (by omega), show (0 : Int).toNat = 0 from rfl, hn.2.1.1] at z
        omega
      · obtain ⟨e1, e2, e3, e4, e5, e6⟩ := en_bd (hn.1 P p0 p1) (by omega)
        have hpP : pex μ (G 0) P = G 0 P + 1 := by unfold pex; rw [if_pos ⟨p2, p3⟩]
        rw [hpP] at e3 e4 e5
        rw [p4, g3, if_neg (by omega), e5, go 2 P p0 p1 (by omega)]
        have hlP := (hn.1 P p0 p1).2.1 (by omega)
        refine ⟨⟨w1.1, w1.2.1, w1.2.2.1, by omega⟩, ⟨by omega, by omega⟩, fun _ => ⟨by omega, ?_⟩⟩
        rw [q2, ← A3, p5]; omega
    · have e : p = σ.1 4 := by omega
      subst e
      refine ⟨fun z => ?_, fun z => ?_⟩
      · unfold pEnd at z; rw [hs1, if_pos rfl] at z; omega
      · rw [hs1, if_pos rfl] at z; omega
    · have e : n = μ.1 8 := by omega
      rw [e] at z; omega
  · refine ⟨⟨by omega, by omega, by omega⟩, fun j j0 j1 => ?_, fun j j0 j1 => ?_, ?_, ?_⟩
    · by_cases e : j = d
      · subst e
        unfold lvl
        rw [hm16, if_pos rfl, hm14.1, hm14.2, hC, b3, b7, b8, b9, gn1, gn2, m3 C C0 C1, m7 C C0 C1, hm8 _ (by omega), if_pos rfl, v8]
        refine ⟨⟨by omega, by omega, rfl, rfl, by omega⟩, ⟨C0, by omega, C2, rfl, C4⟩, Or.inl ⟨by omega, by omega⟩, hf0, fun hj => ?_⟩
        obtain ⟨o1, o2, o3, o4, o5, o6, o7, o8⟩ := hO hj
        have one : μ.2 14 j.toNat ≠ A := fun z => by rw [z, A3] at o5; omega
        rw [m3 _ o1 o2, go 2 _ o1 o2 (by omega), go 0 _ o1 o2 (by omega), go 7 _ o1 o2 (by omega), m9 _ o1 o2 one]
        exact ⟨o1, by omega, o3, o4, o5, o6, o7, o8⟩
      · have hj := hlv j j0 (by omega)
        obtain ⟨h1, h2, h3, h4⟩ := hAj j j0 (by omega)
        refine lvl_ag hj (by omega) ⟨by rw [hm14.1], by rw [hm14.2], by rw [hm16, if_neg (by omega)]⟩ (fun m h0 h1 => ?_) ⟨m7 _ hj.1.1 hj.1.2.1, m8 _ hj.1.1 hj.1.2.1 h3, m9 _ hj.1.1 hj.1.2.1 h1⟩ ⟨m7 _ hj.2.1.1 hj.2.1.2.1, m8 _ hj.2.1.1 hj.2.1.2.1 h2⟩ (fun w => ?_) (fun w => ?_)
        · obtain ⟨k1, k2, k3, k4, k5, k6, k7⟩ := hk m h0 h1
          exact ⟨k1, k2, k3, k5, k6⟩
        · rcases hj.2.2.1 with l | l
          · omega
          · refine m9 _ w l.2.2.1 (fun z => ?_)
            have := l.2.2.2.2.2.1
            rw [z, A3] at this; omega
        · obtain ⟨o1, o2, o3, o4, o5, o6, o7, o8⟩ := hj.2.2.2.2 w
          exact ⟨go 7 _ o1 o2 (by omega), m9 _ o1 o2 (fun z => by rw [z, A3] at o5; omega)⟩
    · have hj := hlv j j0 (by omega)
      have hj1 := hlv (j + 1) (by omega) (by omega)
      have ho := hj1.2.2.2.2 (by omega)
      exact stk_ag (hst j j0 (by omega)) hj hj1 j0 (fun m h0 h1 => ⟨(hk m h0 h1).1, (hk m h0 h1).2.1⟩) (hmj 10 _ (by omega) (by omega) (by omega) (by omega) (by omega)) ⟨by rw [hsj 13 (by omega) (by omega)], by rw [hsj 14 (by omega) (by omega)], by rw [hsj 15 (by omega) (by omega)], by rw [hsj 16 (by omega) (by omega)]⟩ (by rw [hm14.1]) (by rw [hm16, if_neg (by omega)]) (m8 _ hj.1.1 hj.1.2.1 (hAj j j0 (by omega)).2.2.1)
    · rw [n15, v14, hm16, if_pos rfl, gn0]
    · rw [n16, v14, hqd]
      unfold pex
      rw [if_neg (by omega), gn0]
end TL
