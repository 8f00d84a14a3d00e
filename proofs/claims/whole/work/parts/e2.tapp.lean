section TH
variable {σ μ σ' μ' : z_S} {G G' : Nat → Int → Int} {n : Int}
/-- what a node says but for its links -/
theorem pNq_ag2 (h : pNq σ μ G n) (n0 : 0 ≤ n) (n1 : n < μ.1 8) (hR : μ.1 8 ≤ μ'.1 8 ∧ σ.1 4 ≤ σ'.1 4 ∧ σ.1 6 ≤ σ'.1 6 ∧ σ.1 7 ≤ σ'.1 7 ∧ μ.1 9 ≤ μ'.1 9 ∧ μ.1 10 ≤ μ'.1 10)
    (hk : ∀ m, 0 ≤ m → m < μ.1 8 → μ'.2 3 m.toNat = μ.2 3 m.toNat ∧ G' 0 m = G 0 m ∧ G' 2 m = G 2 m ∧ (μ.2 3 m.toNat = 1 → μ'.2 7 m.toNat = μ.2 7 m.toNat) ∧ (μ.2 3 m.toNat = 2 ∨ G 6 m = 1 → G' 1 m = G 1 m) ∧ (G 6 m = 1 → G' 6 m = 1) ∧ (G 7 m = 1 → G' 7 m = 1))
    (hn : μ'.2 4 n.toNat = μ.2 4 n.toNat ∧ μ'.2 5 n.toNat = μ.2 5 n.toNat ∧ μ'.2 6 n.toNat = μ.2 6 n.toNat ∧ (12 ≤ μ.2 3 n.toNat → μ'.2 7 n.toNat = μ.2 7 n.toNat) ∧ (μ.2 3 n.toNat = 16 → μ'.2 10 n.toNat = μ.2 10 n.toNat ∧ μ'.2 11 n.toNat = μ.2 11 n.toNat))
    (hi : μ.2 3 n.toNat = 16 → G' 6 (μ.2 7 n.toNat) = 1 → G 6 (μ.2 7 n.toNat) = 1)
    (hw : ∀ p, 0 ≤ p → p < σ.1 4 → G' 3 p = G 3 p) (hs : ∀ p, 0 ≤ p → p < σ.1 4 → G 3 p = n → σ'.2 1 p.toNat = σ.2 1 p.toNat ∧ ((12 ≤ μ.2 3 n.toNat ∧ μ.2 3 n.toNat ≤ 15 ∧ p = G 0 n) ∨ (μ.2 3 n.toNat = 16 ∧ p = G 0 n + 1) → σ'.2 2 p.toNat = σ.2 2 p.toNat) ∧ (μ.2 3 n.toNat ≠ 2 → σ'.2 3 p.toNat = σ.2 3 p.toNat) ∧ σ'.2 4 p.toNat = σ.2 4 p.toNat)
    (hr : μ.2 3 n.toNat = 16 → σ'.2 2 (pex μ (G 0) (μ.2 7 n.toNat)).toNat = σ.2 2 (pex μ (G 0) (μ.2 7 n.toNat)).toNat) (ha : ∀ j, 7 ≤ j → j ≤ 12 → ∀ i : Nat, (i : Int) < σ.1 6 → σ'.2 j i = σ.2 j i)
    (hg : ∀ a, 1 ≤ a → a ≤ μ.1 9 → G' 4 a = G 4 a) (hl : ∀ a, 0 ≤ a → a < σ.1 7 → G' 5 a = G 5 a)
    (hA : μ.2 3 n.toNat = 2 → qAlt σ' μ' G' n ∧ pFin μ' (G' 0) (G' 1) (G' 2) n) (hI : G' 6 n = 1 → (qIa σ' μ' G' n ∧ pFin μ' (G' 0) (G' 1) (G' 2) n) ∧ G' 7 n = 1) : pNq σ' μ' G' n := by
  obtain ⟨h1, h2, ⟨h3, h3b⟩, h4, h5, h6, h7⟩ := h
  obtain ⟨k1, k2, k3, k4, k5, k6, k7⟩ := hk n n0 n1
  obtain ⟨e4, e5, e6, e7, e1011⟩ := hn
  have hpx : ∀ m, 0 ≤ m → m < μ.1 8 → pex μ' (G' 0) m = pex μ (G 0) m := fun m m0 m1 => by
    unfold pex; rw [(hk m m0 m1).1, (hk m m0 m1).2.1]
  have hs0 : 2 ≤ μ.2 3 n.toNat → σ'.2 1 (G 0 n).toNat = σ.2 1 (G 0 n).toNat ∧ ((12 ≤ μ.2 3 n.toNat ∧ μ.2 3 n.toNat ≤ 15 ∧ G 0 n = G 0 n) ∨ (μ.2 3 n.toNat = 16 ∧ G 0 n = G 0 n + 1) → σ'.2 2 (G 0 n).toNat = σ.2 2 (G 0 n).toNat) ∧ (μ.2 3 n.toNat ≠ 2 → σ'.2 3 (G 0 n).toNat = σ.2 3 (G 0 n).toNat) ∧ σ'.2 4 (G 0 n).toNat = σ.2 4 (G 0 n).toNat := fun hh => by
    obtain ⟨a1, a2, a3, a4, a5, -⟩ := h2 hh
    have : 1 ≤ eW (μ.2 3 n.toNat) := by unfold eW; split <;> (try split) <;> omega
    exact hs _ (by omega) (by omega) a5
  have hs1 : 12 ≤ μ.2 3 n.toNat → σ'.2 1 (G 0 n + 1).toNat = σ.2 1 (G 0 n + 1).toNat ∧ ((12 ≤ μ.2 3 n.toNat ∧ μ.2 3 n.toNat ≤ 15 ∧ G 0 n + 1 = G 0 n) ∨ (μ.2 3 n.toNat = 16 ∧ G 0 n + 1 = G 0 n + 1) → σ'.2 2 (G 0 n + 1).toNat = σ.2 2 (G 0 n + 1).toNat) ∧ (μ.2 3 n.toNat ≠ 2 → σ'.2 3 (G 0 n + 1).toNat = σ.2 3 (G 0 n + 1).toNat) ∧ σ'.2 4 (G 0 n + 1).toNat = σ.2 4 (G 0 n + 1).toNat := fun hh => by
    obtain ⟨a1, a2, a3, a4, a5, a6, -⟩ := h2 (by omega)
    have : 2 ≤ eW (μ.2 3 n.toNat) := by unfold eW; split <;> (try split) <;> omega
    exact hs _ (by omega) (by omega) (a6 hh)
  refine ⟨by rw [k1]; exact h1, fun hh => ?_, ⟨?_, fun hh => ?_⟩, fun hh => hA (by rw [← k1]; exact hh), hI, fun hh hh2 => ?_, fun hh => ?_⟩
  · rw [k1] at hh ⊢
    obtain ⟨a1, a2, a3, a4, a5, a6, a7⟩ := h2 hh
    rw [k2, k3]
    have w1 : 1 ≤ eW (μ.2 3 n.toNat) := by unfold eW; split <;> (try split) <;> omega
    refine ⟨a1, by omega, a3, a4, by rw [hw _ (by omega) (by omega)]; exact a5, fun q => ?_, fun q => ?_⟩
    · have : 2 ≤ eW (μ.2 3 n.toNat) := by unfold eW; split <;> (try split) <;> omega
      rw [hw _ (by omega) (by omega)]; exact a6 q
    · have : 3 ≤ eW (μ.2 3 n.toNat) := by unfold eW; rw [if_pos q]; omega
      rw [hw _ (by omega) (by omega)]; exact a7 q
  · by_cases hh : 3 ≤ μ.2 3 n.toNat
    · obtain ⟨s1, s2, s3, s4⟩ := hs0 (by omega)
      unfold pTest at h3 ⊢
      rw [k1, e4, e5, e6, k2, s1, s3 (by omega), s4]
      obtain ⟨t3, t4, t5, t6, t7, t8⟩ := h3
      refine ⟨t3, t4, t5, fun q => ?_, t7, t8⟩
      obtain ⟨u1, u2, u3, u4, u5, u6⟩ := t6 q
      exact ⟨u1, u2, u3, u4, u5, by omega⟩
    · unfold pTest
      rw [k1]
      refine ⟨fun q => ?_, fun q => ?_, fun q => ?_, fun q => ?_, fun q => ?_, fun q => ?_, fun q => ?_, fun q => ?_, fun q => ?_⟩ <;> omega
  · rw [k1] at hh
    rw [k2, e5, (hs0 (by omega)).2.2.2]; exact h3b hh
  · rw [k1] at hh hh2
    obtain ⟨q1, q2, q3, q4, q5, q6, q7, q8⟩ := h6 hh hh2
    obtain ⟨s1, s2, s3, s4⟩ := hs0 (by omega)
    have s2 := s2 (Or.inl ⟨hh, hh2, rfl⟩)
    have s3 := s3 (by omega)
    obtain ⟨r1, r2, r3, r4⟩ := hs1 hh
    have r3 := r3 (by omega)
    obtain ⟨m1, m2, m3, m4, -⟩ := hk _ q4.1 q4.2.1
    obtain ⟨l1, l2, l3, l4, l5, -⟩ := hk _ q5.1 q5.2.1
    unfold qPar
    rw [e7 hh, m4 q4.2.2, k1, k2, k3, e4, s1, s2, s3, r1, r3, m1, l1, l2, l3, l5 (Or.inl q5.2.2.1)]
    refine ⟨q1, q2, q3, ⟨q4.1, by omega, q4.2.2⟩, ⟨q5.1, by omega, q5.2.2⟩, q6, fun q => ?_, fun q => ?_⟩
    · obtain ⟨a1, a2, a3, a4⟩ := q7 q
      exact ⟨a1, a2, by omega, by rw [hg _ a2 a3]; exact a4⟩
    · obtain ⟨a1, a2, a3⟩ := q8 q
      exact ⟨a1, by omega, by rw [hl _ a1 a2]; exact a3⟩
  · rw [k1] at hh
    obtain ⟨⟨q1, q2, q3, q4, q5, q6, q7, q8, q9, q10, q11⟩, q12, q13, q14⟩ := h7 hh
    obtain ⟨a1, a2, a3, a4, a5, a6, a7⟩ := h2 (by omega)
    have w3 : eW (μ.2 3 n.toNat) = 3 := by unfold eW; rw [if_pos hh]
    obtain ⟨s1, s2, s3, s4⟩ := hs0 (by omega)
    have s3 := s3 (by omega)
    obtain ⟨r1, r2, r3, r4⟩ := hs1 (by omega)
    have r2 := r2 (Or.inr ⟨hh, rfl⟩)
    have r3 := r3 (by omega)
    obtain ⟨t1, t2, t3, t4⟩ := hs (G 0 n + 2) (by omega) (by omega) (a7 hh)
    have t3 := t3 (by omega)
    obtain ⟨m1, m2, m3, m4, m5, m6, m7⟩ := hk _ q6.1 q6.2.1
    obtain ⟨e10, e11⟩ := e1011 hh
    have e7 := e7 (by omega)
    have hrp : ((σ.2 3 (G 0 n).toNat).toNat : Int) < σ.1 6 := by have := q5.1; omega
    refine ⟨?_, by rw [k2, s3]; omega, by rw [e7]; exact m7 q13, by rw [e7]; exact fun z => q14 (hi hh z)⟩
    unfold pRep
    rw [e7, k2, hpx _ q6.1 q6.2.1, s1, r1, t1, s3, r3, t3, r2, hr hh, hw _ (by omega) (by omega), m1, m2, m3, k3, e4, e5, e6, e10, e11, ha 12 (by omega) (by omega) _ hrp, ha 7 (by omega) (by omega) _ hrp, ha 8 (by omega) (by omega) _ hrp, ha 9 (by omega) (by omega) _ hrp, ha 10 (by omega) (by omega) _ hrp, ha 11 (by omega) (by omega) _ hrp]
    exact ⟨q1, q2, q3, q4, q5, ⟨q6.1, by omega, q6.2.2⟩, q7, q8, q9, q10, q11⟩
/-- a level that is as it was -/
theorem lvl_ag {j : Int} (h : lvl μ G j) (hR : μ.1 8 ≤ μ'.1 8) (hst : μ'.2 14 j.toNat = μ.2 14 j.toNat ∧ μ'.2 15 j.toNat = μ.2 15 j.toNat ∧ μ'.2 16 j.toNat = μ.2 16 j.toNat)
    (hk : ∀ m, 0 ≤ m → m < μ.1 8 → μ'.2 3 m.toNat = μ.2 3 m.toNat ∧ G' 0 m = G 0 m ∧ G' 2 m = G 2 m ∧ (μ.2 3 m.toNat = 2 ∨ G 6 m = 1 → G' 1 m = G 1 m) ∧ (G 6 m = 1 → G' 6 m = 1))
    (hA : μ'.2 7 (μ.2 16 j.toNat).toNat = μ.2 7 (μ.2 16 j.toNat).toNat ∧ μ'.2 8 (μ.2 16 j.toNat).toNat = μ.2 8 (μ.2 16 j.toNat).toNat ∧ μ'.2 9 (μ.2 16 j.toNat).toNat = μ.2 9 (μ.2 16 j.toNat).toNat)
    (hC : μ'.2 7 (μ.2 15 j.toNat).toNat = μ.2 7 (μ.2 15 j.toNat).toNat ∧ μ'.2 8 (μ.2 15 j.toNat).toNat = μ.2 8 (μ.2 15 j.toNat).toNat)
    (hL : 0 ≤ μ.2 8 (μ.2 16 j.toNat).toNat → μ'.2 9 (μ.2 8 (μ.2 16 j.toNat).toNat).toNat = μ.2 9 (μ.2 8 (μ.2 16 j.toNat).toNat).toNat)
    (hO : 1 ≤ j → G' 7 (μ.2 14 j.toNat) = G 7 (μ.2 14 j.toNat) ∧ μ'.2 9 (μ.2 14 j.toNat).toNat = μ.2 9 (μ.2 14 j.toNat).toNat) : lvl μ' G' j := by
  obtain ⟨⟨a1, a2, a3, a4, a5⟩, ⟨c1, c2, c3, c4, c5⟩, l1, f1, o1⟩ := h
  obtain ⟨s1, s2, s3⟩ := hst
  obtain ⟨k1, k2, k3, k4, -⟩ := hk _ a1 a2
  obtain ⟨m1, m2, m3, m4, -⟩ := hk _ c1 c2
  unfold lvl
  rw [s1, s2, s3, k1, k3, k4 (Or.inl a3), hA.1, hA.2.1, hA.2.2, m1, hC.1, hC.2]
  refine ⟨⟨a1, by omega, a3, a4, a5⟩, ⟨c1, by omega, c3, c4, c5⟩, ?_, f1, fun hj => ?_⟩
  · rcases l1 with l | ⟨l1, l2, l3, l4, l5, l6, l7⟩
    · exact Or.inl l
    · obtain ⟨q1, q2, q3, q4, q5⟩ := hk _ l2 l3
      rw [q4 (Or.inr l4), q3, hL l2]
      exact Or.inr ⟨l1, l2, by omega, q5 l4, l5, l6, l7⟩
  · obtain ⟨b1, b2, b3, b4, b5, b6, b7, b8⟩ := o1 hj
    obtain ⟨q1, q2, q3, -⟩ := hk _ b1 b2
    rw [q1, q2, q3, (hO hj).1, (hO hj).2]
    exact ⟨b1, by omega, b3, b4, b5, b6, b7, b8⟩
theorem qN_bd {j : Int} (h : lvl μ G j) : 0 ≤ qN μ j ∧ qN μ j < μ.1 8 ∧ G 2 (qN μ j) = j + 1 ∧ (μ.2 3 (qN μ j).toNat = 2 ∨ G 6 (qN μ j) = 1) := by
  obtain ⟨⟨a1, a2, a3, a4, a5⟩, -, l1, -⟩ := h
  unfold qN
  rcases l1 with ⟨l1, l2⟩ | ⟨l1, l2, l3, l4, l5, l6, l7⟩
  · rw [if_pos l2]; exact ⟨a1, a2, a4, Or.inl a3⟩
  · rw [if_neg (by omega)]; exact ⟨l2, l3, l6, Or.inr l4⟩
theorem qN_ag {j : Int} (hst : μ'.2 16 j.toNat = μ.2 16 j.toNat) (hA : μ'.2 8 (μ.2 16 j.toNat).toNat = μ.2 8 (μ.2 16 j.toNat).toNat) : qN μ' j = qN μ j := by
  unfold qN; rw [hst, hA]
theorem stk_ag {j : Int} (h : stk σ μ G j) (hl : lvl μ G j) (hl1 : lvl μ G (j + 1)) (hj : 0 ≤ j) (hk : ∀ m, 0 ≤ m → m < μ.1 8 → μ'.2 3 m.toNat = μ.2 3 m.toNat ∧ G' 0 m = G 0 m) (h10 : μ'.2 10 (μ.2 14 (j + 1).toNat).toNat = μ.2 10 (μ.2 14 (j + 1).toNat).toNat)
    (hs : σ'.2 13 j.toNat = σ.2 13 j.toNat ∧ σ'.2 14 j.toNat = σ.2 14 j.toNat ∧ σ'.2 15 j.toNat = σ.2 15 j.toNat ∧ σ'.2 16 j.toNat = σ.2 16 j.toNat) (h14 : μ'.2 14 (j + 1).toNat = μ.2 14 (j + 1).toNat) (h16 : μ'.2 16 j.toNat = μ.2 16 j.toNat) (hA : μ'.2 8 (μ.2 16 j.toNat).toNat = μ.2 8 (μ.2 16 j.toNat).toNat) : stk σ' μ' G' j := by
  obtain ⟨s1, s2, s3, s4⟩ := h
  obtain ⟨t1, t2, t3, t4⟩ := hs
  have hq := qN_bd hl
  have ho := hl1.2.2.2.2 (by omega)
  have hpx : pex μ' (G' 0) (qN μ j) = pex μ (G 0) (qN μ j) := by
    unfold pex; rw [(hk _ hq.1 hq.2.1).1, (hk _ hq.1 hq.2.1).2]
  unfold stk
  rw [t1, t2, t3, t4, h14, h16, qN_ag h16 hA, hpx, h10, (hk _ ho.1 ho.2.1).2, (hk _ hl.1.1 hl.1.2.1).2]
  exact ⟨s1, s2, s3, s4⟩
end TH
