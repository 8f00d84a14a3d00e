section TJ
variable {σ μ σ' μ' : z_S} {G G' : Nat → Int → Int} {n t : Int}
/-- an alternative ends with its parenthesis -/
theorem tClose (hn : pTn σ μ G) (hl : pTl σ μ G) (hd1 : 1 ≤ μ.1 14) (hs2 : ∀ i : Nat, σ'.2 2 i = if i = (σ.1 16).toNat then G 0 (μ.2 14 (μ.1 14).toNat) + 1 else σ.2 2 i) (hsj : ∀ j i : Nat, 1 ≤ j → j ≤ 16 → j ≠ 2 → σ'.2 j i = σ.2 j i)
    (hs1 : σ'.1 4 = σ.1 4 ∧ σ'.1 6 = σ.1 6 ∧ σ'.1 7 = σ.1 7 ∧ σ'.1 8 = σ.1 8 ∧ σ'.1 14 = μ.1 14 - 1 ∧ σ'.1 15 = σ.2 15 (μ.1 14 - 1).toNat ∧ σ'.1 16 = σ.2 14 (μ.1 14 - 1).toNat) (hmj : ∀ j, 3 ≤ j → j ≤ 16 → μ'.2 j = μ.2 j) (hm1 : μ'.1 8 = μ.1 8 ∧ μ'.1 9 = μ.1 9 ∧ μ'.1 10 = μ.1 10 ∧ μ'.1 14 = μ.1 14 - 1) :
    pTn σ' μ' G ∧ pTl σ' μ' G := by
  obtain ⟨⟨d0, d1, d2⟩, hlv, hst, c15, c16⟩ := id hl
  have hL := hlv (μ.1 14) d0 (Int.le_refl _)
  obtain ⟨⟨A0, A1, A2, A3, A4⟩, ⟨C0, C1, C2, C3, C4⟩, hLL, hf0, hO⟩ := id hL
  obtain ⟨o1, o2, o3, o4, o5, o6, o7, o8⟩ := hO hd1
  obtain ⟨q0, q1, q2, q3⟩ := qN_bd hL
  generalize hO' : μ.2 14 (μ.1 14).toNat = O at *
  generalize hA : μ.2 16 (μ.1 14).toNat = A at *
  generalize hd : μ.1 14 = d at *
  have hnq := hn.1 _ q0 q1
  have hnA := hn.1 A A0 A1
  have hnO := hn.1 O o1 o2
  have q2k : 2 ≤ μ.2 3 (qN μ d).toNat := by
    rcases q3 with e | e
    · omega
    · have := (hnq.2.2.2.2.1 e).1.1.1; omega
  obtain ⟨x1, x2, x3, x4, x5, x6⟩ := en_bd hnq q2k
  obtain ⟨y1, y2, y3, y4, y5, y6⟩ := en_bd hnO (by omega)
  have hpO : pex μ (G 0) O = G 0 O + 1 := by unfold pex; rw [if_pos ⟨o3, o4⟩]
  rw [hpO] at y3 y4 y5
  have hqA : qN μ d = if μ.2 8 A.toNat < 0 then A else μ.2 8 A.toNat := by unfold qN; rw [hA]
  have T : σ.1 16 = pex μ (G 0) (qN μ d) := c16
  obtain ⟨n4, n6, n7, n8, n14, n15, n16⟩ := hs1
  obtain ⟨v8, v9, v10, v14⟩ := hm1
  have hqN : ∀ j, qN μ' j = qN μ j := fun j => by unfold qN; rw [hmj 8 (by omega) (by omega), hmj 16 (by omega) (by omega)]
  have hpx : ∀ m, pex μ' (G 0) m = pex μ (G 0) m := fun m => by unfold pex; rw [hmj 3 (by omega) (by omega)]
  have hk : ∀ m, 0 ≤ m → m < μ.1 8 → μ'.2 3 m.toNat = μ.2 3 m.toNat ∧ G 0 m = G 0 m ∧ G 2 m = G 2 m ∧ (μ.2 3 m.toNat = 1 → μ'.2 7 m.toNat = μ.2 7 m.toNat) ∧ (μ.2 3 m.toNat = 2 ∨ G 6 m = 1 → G 1 m = G 1 m) ∧ (G 6 m = 1 → G 6 m = 1) ∧ (G 7 m = 1 → G 7 m = 1) := fun m _ _ => ⟨by rw [hmj 3 (by omega) (by omega)], rfl, rfl, fun _ => by rw [hmj 7 (by omega) (by omega)], fun _ => rfl, id, id⟩
  have hfin : ∀ m, pFin μ (G 0) (G 1) (G 2) m → pFin μ' (G 0) (G 1) (G 2) m := fun m hf => by
    unfold pFin at hf ⊢
    rw [v8, hmj 3 (by omega) (by omega)]; exact hf
  constructor
  · refine pTn_gen (T := σ.1 16) hn (by omega) (by rw [v9, n8]; exact ⟨hn.2.2.2.2.2.2.2.2.2.1, hn.2.2.2.2.2.2.2.2.2.2.2.1⟩) hk (fun p _ _ => rfl) (fun p p0 p1 => ⟨hsj 1 _ (by omega) (by omega) (by omega), fun z => by rw [hs2, if_neg (by omega)]⟩) (fun j j1 j2 i _ => hsj j i (by omega) (by omega) (by omega)) (fun a _ _ => rfl) (fun a _ _ => rfl) (fun n n0 n1 => ?_) (fun n n0 n1 => by omega) (fun T0 T1 => ?_) (fun p p0 p1 => by omega) (fun n n0 n1 => by omega)
    · by_cases e1 : n = qN μ d
      · left
        rw [e1]
        refine pNq_ag2 hnq q0 q1 (by omega) hk ⟨by rw [hmj 4 (by omega) (by omega)], by rw [hmj 5 (by omega) (by omega)], by rw [hmj 6 (by omega) (by omega)], fun _ => by rw [hmj 7 (by omega) (by omega)], fun _ => ⟨by rw [hmj 10 (by omega) (by omega)], by rw [hmj 11 (by omega) (by omega)]⟩⟩ (fun _ w => w) (fun p _ _ => rfl) (fun p p0 p1 pn => ⟨hsj 1 _ (by omega) (by omega) (by omega), fun z => ?_, fun _ => hsj 3 _ (by omega) (by omega) (by omega), hsj 4 _ (by omega) (by omega) (by omega)⟩) (fun z => ?_) (fun j j1 j2 i _ => hsj j i (by omega) (by omega) (by omega)) (fun a _ _ => rfl) (fun a _ _ => rfl) (fun z => ?_) (fun z => ?_)
        · rw [hs2, if_neg]
          rw [T]
          unfold pex
          split <;> omega
        · have hrep := hnq.2.2.2.2.2.2 z
          have hfr := hrep.1.2.2.2.2.2.1
          have := en_bd (hn.1 _ hfr.1 hfr.2.1) (by omega)
          rw [hs2, if_neg]
          intro e
          have e2 : pex μ (G 0) (μ.2 7 (qN μ d).toNat) = σ.1 16 := by omega
          rw [T] at e2
          have e3 := this.2.2.2.2.1
          rw [e2, x5] at e3
          have : G 6 (qN μ d) ≠ 1 := by rw [e3]; exact hrep.2.2.2
          rcases q3 with w | w
          · omega
          · exact this w
        · have hqa : qN μ d = A := by
            rw [hqA]
            split
            · rfl
            · rename_i w
              rcases hLL with l | ⟨l1, l2, l3, l4, -⟩
              · omega
              · rw [hqA, if_neg w] at z
                have := ((hn.1 _ l2 l3).2.2.2.2.1 l4).1.1.1; omega
          have l7 : μ.2 7 A.toNat < 0 := by
            rw [hqA] at hqa
            rcases hLL with l | ⟨l1, l2, l3, l4, -⟩
            · exact l.1
            · rw [if_neg (by omega)] at hqa
              rw [hqa] at l4
              have := (hnA.2.2.2.2.1 l4).1.1.1; omega
          rw [hqa] at z ⊢
          obtain ⟨⟨u1, u2, u3, u4, u5⟩, u6⟩ := hnA.2.2.2.1 A2
          have hpA : pex μ (G 0) A = G 0 A := by unfold pex; rw [if_neg (by omega)]
          rw [hqa, hpA] at T
          refine ⟨⟨by rw [hsj 1 _ (by omega) (by omega) (by omega)]; exact u1, by rw [hsj 3 _ (by omega) (by omega) (by omega), hmj 9 (by omega) (by omega)]; exact u2, fun w => ?_, fun _ => ?_, fun w => ?_⟩, hfin A u6⟩
          · rw [hmj 9 (by omega) (by omega)] at w; omega
          · rw [hmj 7 (by omega) (by omega), if_pos l7, hs2, if_pos (by rw [T]), o6]
          · rw [hmj 7 (by omega) (by omega)] at w; omega
        · obtain ⟨⟨⟨u1, u2, u3⟩, u4⟩, u5⟩ := hnq.2.2.2.2.1 z
          have hqL : ¬ μ.2 8 A.toNat < 0 := fun w => by
            rw [hqA, if_pos w] at u1; omega
          have hqa : qN μ d = μ.2 8 A.toNat := by rw [hqA, if_neg hqL]
          obtain ⟨f1, f2⟩ : G 1 (qN μ d) = G 1 A ∧ μ.2 9 (qN μ d).toNat < 0 := by
            rcases hLL with l | ⟨l1, l2, l3, l4, l5, l6, l7⟩
            · omega
            · rw [hqa]; exact ⟨l5, l7⟩
          refine ⟨⟨⟨by rw [hmj 3 (by omega) (by omega)]; exact u1, fun _ => ?_, fun w => ?_⟩, hfin _ u4⟩, u5⟩
          · rw [hpx, hmj 9 (by omega) (by omega), if_pos f2, hs2, if_pos (by rw [T]), f1, o6]
          · rw [hmj 9 (by omega) (by omega)] at w; omega
      · right
        refine ⟨⟨by rw [hmj 4 (by omega) (by omega)], by rw [hmj 5 (by omega) (by omega)], by rw [hmj 6 (by omega) (by omega)], by rw [hmj 7 (by omega) (by omega)], by rw [hmj 9 (by omega) (by omega)], fun _ => ⟨by rw [hmj 10 (by omega) (by omega)], by rw [hmj 11 (by omega) (by omega)]⟩⟩, ⟨id, fun z => ?_, fun _ => id⟩, fun p p0 p1 pn => ⟨fun _ w => ?_, hsj 3 _ (by omega) (by omega) (by omega), hsj 4 _ (by omega) (by omega) (by omega)⟩, fun z w => ?_⟩
        · obtain ⟨j, j0, j1, j2⟩ := z
          rw [hd] at j1
          have : j ≠ d := fun w => e1 (by rw [j2, w])
          exact ⟨j, j0, by omega, by rw [hqN]; exact j2⟩
        · rw [w, T, x5] at pn
          exact e1 pn.symm
        · have hrep := (hn.1 n n0 n1).2.2.2.2.2.2 z
          have hfr := hrep.1.2.2.2.2.2.1
          have := en_bd (hn.1 _ hfr.1 hfr.2.1) (by omega)
          rw [T] at w
          have e3 := this.2.2.2.2.1
          rw [w, x5] at e3
          rcases q3 with v | v
          · rw [e3] at v; omega
          · rw [e3] at v; exact hrep.2.2.2 v
    · intro hp
      have hp0 : pEnd σ (σ.1 16) := by unfold pEnd at hp ⊢; rw [hsj 1 _ (by omega) (by omega) (by omega)] at hp; exact hp
      obtain ⟨w1, w2, w3⟩ := hn.2.2.1 _ T0 T1 hp0
      rw [hs2, if_pos rfl, v8]
      refine ⟨w1, ⟨by omega, by omega⟩, fun _ => ?_⟩
      rw [y5, o5]
      rw [T, x5, q2]
      omega
  · refine ⟨⟨by omega, by omega, by omega⟩, fun j j0 j1 => ?_, fun j j0 j1 => ?_, ?_, ?_⟩
    · have hj := hlv j j0 (by omega)
      exact lvl_ag hj (by omega) ⟨by rw [hmj 14 (by omega) (by omega)], by rw [hmj 15 (by omega) (by omega)], by rw [hmj 16 (by omega) (by omega)]⟩ (fun m h0 h1 => ⟨by rw [hmj 3 (by omega) (by omega)], rfl, rfl, fun _ => rfl, id⟩) ⟨by rw [hmj 7 (by omega) (by omega)], by rw [hmj 8 (by omega) (by omega)], by rw [hmj 9 (by omega) (by omega)]⟩ ⟨by rw [hmj 7 (by omega) (by omega)], by rw [hmj 8 (by omega) (by omega)]⟩ (fun _ => by rw [hmj 9 (by omega) (by omega)]) (fun _ => ⟨rfl, by rw [hmj 9 (by omega) (by omega)]⟩)
    · have hj := hlv j j0 (by omega)
      have hj1 := hlv (j + 1) (by omega) (by omega)
      exact stk_ag (hst j j0 (by omega)) hj hj1 j0 (fun m h0 h1 => ⟨by rw [hmj 3 (by omega) (by omega)], rfl⟩) (by rw [hmj 10 (by omega) (by omega)]) ⟨hsj 13 _ (by omega) (by omega) (by omega), hsj 14 _ (by omega) (by omega) (by omega), hsj 15 _ (by omega) (by omega) (by omega), hsj 16 _ (by omega) (by omega) (by omega)⟩ (by rw [hmj 14 (by omega) (by omega)]) (by rw [hmj 16 (by omega) (by omega)]) (by rw [hmj 8 (by omega) (by omega)])
    · rw [n15, v14, hmj 16 (by omega) (by omega)]
      exact (hst (d - 1) (by omega) (by omega)).2.2.1
    · rw [n16, v14, hpx, hqN]
      exact (hst (d - 1) (by omega) (by omega)).2.1
/-- new nodes, and nothing old changes but the link at T of a node that nobody has taken -/
theorem tNewN {T : Int} (hn : pTn σ μ G) (hR : μ.1 8 ≤ μ'.1 8 ∧ σ.1 4 ≤ σ'.1 4 ∧ σ.1 6 ≤ σ'.1 6 ∧ σ.1 7 ≤ σ'.1 7 ∧ μ.1 9 ≤ μ'.1 9 ∧ μ.1 10 ≤ μ'.1 10) (hR2 : σ'.1 8 = μ'.1 9 ∧ μ'.1 9 ≤ 20)
    (hm : ∀ j, 3 ≤ j → j ≤ 11 → ∀ m, 0 ≤ m → m < μ.1 8 → μ'.2 j m.toNat = μ.2 j m.toNat) (hs : ∀ p, 0 ≤ p → p < σ.1 4 → σ'.2 1 p.toNat = σ.2 1 p.toNat ∧ (p ≠ T → σ'.2 2 p.toNat = σ.2 2 p.toNat) ∧ σ'.2 3 p.toNat = σ.2 3 p.toNat ∧ σ'.2 4 p.toNat = σ.2 4 p.toNat)
    (ha : ∀ j, 7 ≤ j → j ≤ 12 → ∀ i : Nat, (i : Int) < σ.1 6 → σ'.2 j i = σ.2 j i) (hT : T < 0 ∨ (0 ≤ t ∧ t < μ.1 8 ∧ T = pex μ (G 0) t ∧ 3 ≤ μ.2 3 t.toNat ∧ μ.2 3 t.toNat ≠ 16 ∧ G 7 t ≠ 1))
    (hG : ∀ m, 0 ≤ m → m < μ.1 8 → G' 0 m = G 0 m ∧ G' 1 m = G 1 m ∧ G' 2 m = G 2 m ∧ G' 6 m = G 6 m ∧ (G 7 m = 1 → G' 7 m = 1)) (hw : ∀ p, 0 ≤ p → p < σ.1 4 → G' 3 p = G 3 p) (hg : ∀ a, 1 ≤ a → a ≤ μ.1 9 → G' 4 a = G 4 a) (hl : ∀ a, 0 ≤ a → a < σ.1 7 → G' 5 a = G 5 a)
    (hQ : ∀ n, 0 ≤ n → n < μ.1 8 → Qp μ n → Qp μ' n) (hnew : ∀ n, μ.1 8 ≤ n → n < μ'.1 8 → pNq σ' μ' G' n) (hTe : 0 ≤ T → T < σ.1 4 → pEnds σ' μ' G' T) (hnE : ∀ p, σ.1 4 ≤ p → p < σ'.1 4 → pEnds σ' μ' G' p ∧ pBks σ' μ' G' p) (hnB : ∀ n, μ.1 8 ≤ n → n < μ'.1 8 → μ'.2 3 n.toNat = 7 → σ.1 4 ≤ G' 0 n ∧ n = μ.1 8) : pTn σ' μ' G' := by
  refine pTn_gen (T := T) hn hR hR2 (fun m m0 m1 => ?_) hw (fun p p0 p1 => ⟨(hs p p0 p1).1, (hs p p0 p1).2.1⟩) ha hg hl (fun n n0 n1 => Or.inr ⟨⟨hm 4 (by omega) (by omega) n n0 n1, hm 5 (by omega) (by omega) n n0 n1, hm 6 (by omega) (by omega) n n0 n1, hm 7 (by omega) (by omega) n n0 n1, hm 9 (by omega) (by omega) n n0 n1, fun _ => ⟨hm 10 (by omega) (by omega) n n0 n1, hm 11 (by omega) (by omega) n n0 n1⟩⟩, ⟨fun z => by rw [(hG n n0 n1).2.2.2.1] at z; exact z, hQ n n0 n1, fun z w => ?_⟩, fun p p0 p1 pn => ⟨fun z w => ?_, (hs p p0 p1).2.2.1, (hs p p0 p1).2.2.2⟩, fun z w => ?_⟩) hnew hTe hnE hnB
  · obtain ⟨g0, g1, g2, g6, g7⟩ := hG m m0 m1
    exact ⟨hm 3 (by omega) (by omega) m m0 m1, g0, g2, fun _ => hm 7 (by omega) (by omega) m m0 m1, fun _ => g1, fun e => by rw [g6]; exact e, g7⟩
  · have hfr := ((hn.1 n n0 n1).2.2.2.2.2.2 z).1.2.2.2.2.2.1
    rw [(hG _ hfr.1 hfr.2.1).2.2.2.1] at w; exact w
  · rcases hT with h | ⟨t0, t1, t2, t3, t4, t5⟩
    · omega
    · have hb := en_bd (hn.1 t t0 t1) (by omega)
      rw [w, t2, hb.2.2.2.2.1] at pn
      subst pn
      have t6 : G 6 t ≠ 1 := fun q => t5 ((hn.1 t t0 t1).2.2.2.2.1 q).2
      rcases z with z | z | z | z
      · omega
      · exact t6 z
      · have h16 := (hn.1 t t0 t1).1
        have := z.2
        rw [w, t2] at this
        unfold pex at this
        split at this <;> omega
      · exact t4 z
  · rcases hT with h | ⟨t0, t1, t2, t3, t4, t5⟩
    · have hfr := ((hn.1 n n0 n1).2.2.2.2.2.2 z).1.2.2.2.2.2.1
      have hb := en_bd (hn.1 _ hfr.1 hfr.2.1) (by omega)
      omega
    · have hrep := (hn.1 n n0 n1).2.2.2.2.2.2 z
      have hfr := hrep.1.2.2.2.2.2.1
      have hb := en_bd (hn.1 _ hfr.1 hfr.2.1) (by omega)
      have hb2 := en_bd (hn.1 t t0 t1) (by omega)
      rw [w, t2, hb2.2.2.2.2.1] at hb
      exact t5 (by rw [hb.2.2.2.2.1]; exact hrep.2.2.1)
/-- the levels when nodes are made -/
theorem tNewL (hl : pTl σ μ G) (hR : μ.1 8 ≤ μ'.1 8) (hd : σ'.1 14 = σ.1 14 ∧ μ'.1 14 = μ.1 14 ∧ σ'.1 15 = σ.1 15 ∧ σ'.1 16 = σ.1 16) (hm : ∀ j, 3 ≤ j → j ≤ 11 → ∀ m, 0 ≤ m → m < μ.1 8 → μ'.2 j m.toNat = μ.2 j m.toNat)
    (hst : ∀ j : Nat, 14 ≤ j → j ≤ 16 → μ'.2 j = μ.2 j) (hss : ∀ j i : Nat, 13 ≤ j → j ≤ 16 → σ'.2 j i = σ.2 j i) (hG : ∀ m, 0 ≤ m → m < μ.1 8 → G' 0 m = G 0 m ∧ G' 1 m = G 1 m ∧ G' 2 m = G 2 m ∧ G' 6 m = G 6 m) (hO : ∀ j, 1 ≤ j → j ≤ μ.1 14 → G' 7 (μ.2 14 j.toNat) = G 7 (μ.2 14 j.toNat)) :
    pTl σ' μ' G' ∧ (∀ j, 0 ≤ j → j ≤ μ.1 14 → qN μ' j = qN μ j) ∧ (∀ n, Qp μ n → Qp μ' n) := by
  obtain ⟨⟨d0, d1, d2⟩, hlv, hst2, c15, c16⟩ := hl
  have hk : ∀ m, 0 ≤ m → m < μ.1 8 → μ'.2 3 m.toNat = μ.2 3 m.toNat ∧ G' 0 m = G 0 m ∧ G' 2 m = G 2 m ∧ (μ.2 3 m.toNat = 2 ∨ G 6 m = 1 → G' 1 m = G 1 m) ∧ (G 6 m = 1 → G' 6 m = 1) := fun m m0 m1 => by
    obtain ⟨g0, g1, g2, g6⟩ := hG m m0 m1
    exact ⟨hm 3 (by omega) (by omega) m m0 m1, g0, g2, fun _ => g1, fun e => by rw [g6]; exact e⟩
  have hq : ∀ j, 0 ≤ j → j ≤ μ.1 14 → qN μ' j = qN μ j := fun j j0 j1 => by
    have hj := hlv j j0 j1
    exact qN_ag (by rw [hst 16 (by omega) (by omega)]) (hm 8 (by omega) (by omega) _ hj.1.1 hj.1.2.1)
  have hpx : ∀ m, 0 ≤ m → m < μ.1 8 → pex μ' (G' 0) m = pex μ (G 0) m := fun m m0 m1 => by unfold pex; rw [(hk m m0 m1).1, (hk m m0 m1).2.1]
  refine ⟨⟨by rw [hd.1, hd.2.1]; exact ⟨d0, d1, d2⟩, fun j j0 j1 => ?_, fun j j0 j1 => ?_, ?_, ?_⟩, hq, fun n ⟨j, j0, j1, j2⟩ => ⟨j, j0, by rw [hd.2.1]; exact j1, by rw [hq j j0 j1]; exact j2⟩⟩
  · rw [hd.2.1] at j1
    have hj := hlv j j0 j1
    refine lvl_ag hj hR ⟨by rw [hst 14 (by omega) (by omega)], by rw [hst 15 (by omega) (by omega)], by rw [hst 16 (by omega) (by omega)]⟩ hk ⟨hm 7 (by omega) (by omega) _ hj.1.1 hj.1.2.1, hm 8 (by omega) (by omega) _ hj.1.1 hj.1.2.1, hm 9 (by omega) (by omega) _ hj.1.1 hj.1.2.1⟩ ⟨hm 7 (by omega) (by omega) _ hj.2.1.1 hj.2.1.2.1, hm 8 (by omega) (by omega) _ hj.2.1.1 hj.2.1.2.1⟩ (fun w => ?_) (fun w => ⟨hO j w j1, hm 9 (by omega) (by omega) _ (hj.2.2.2.2 w).1 (hj.2.2.2.2 w).2.1⟩)
    rcases hj.2.2.1 with l | l
    · omega
    · exact hm 9 (by omega) (by omega) _ w l.2.2.1
  · rw [hd.2.1] at j1
    have hj := hlv j j0 (by omega)
    have hj1 := hlv (j + 1) (by omega) (by omega)
    have ho := hj1.2.2.2.2 (by omega)
    exact stk_ag (hst2 j j0 j1) hj hj1 j0 (fun m m0 m1 => ⟨(hk m m0 m1).1, (hk m m0 m1).2.1⟩) (hm 10 (by omega) (by omega) _ ho.1 ho.2.1) ⟨hss 13 _ (by omega) (by omega), hss 14 _ (by omega) (by omega), hss 15 _ (by omega) (by omega), hss 16 _ (by omega) (by omega)⟩ (by rw [hst 14 (by omega) (by omega)]) (by rw [hst 16 (by omega) (by omega)]) (hm 8 (by omega) (by omega) _ hj.1.1 hj.1.2.1)
  · have hj := hlv (μ.1 14) d0 (Int.le_refl _)
    rw [hd.2.2.1, hd.2.1, hst 16 (by omega) (by omega), (hk _ hj.1.1 hj.1.2.1).2.1]; exact c15
  · have hj := qN_bd (hlv (μ.1 14) d0 (Int.le_refl _))
    rw [hd.2.2.2, hd.2.1, hq _ d0 (Int.le_refl _), hpx _ hj.1 hj.2.1]; exact c16
end TJ
