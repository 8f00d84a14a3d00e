/-! THE TWO READERS: what both have read so far. G: 0 en, 1 fin, 2 lv, 3 ow, 4 gw, 5 kw, 6 a term of an alternative, 7 a term or the atom of a repetition -/
def eW (k : Int) : Int := if k = 16 then 3 else if 12 ≤ k then 2 else 1
/-- the node at level j behind which the next one comes -/
def qN (μ : z_S) (j : Int) : Int := if μ.2 8 (μ.2 16 j.toNat).toNat < 0 then μ.2 16 j.toNat else μ.2 8 (μ.2 16 j.toNat).toNat
def Qp (μ : z_S) (n : Int) : Prop := ∃ j, 0 ≤ j ∧ j ≤ μ.1 14 ∧ n = qN μ j
def qAlt (σ μ : z_S) (G : Nat → Int → Int) (n : Int) : Prop :=
  σ.2 1 (G 0 n).toNat = 11 ∧ σ.2 3 (G 0 n).toNat = (if μ.2 9 n.toNat < 0 then -1 else G 0 (μ.2 9 n.toNat)) ∧
  (0 ≤ μ.2 9 n.toNat → μ.2 9 n.toNat < μ.1 8 ∧ μ.2 3 (μ.2 9 n.toNat).toNat = 2 ∧ G 1 (μ.2 9 n.toNat) = G 1 n ∧ G 2 (μ.2 9 n.toNat) = G 2 n) ∧
  (¬ Qp μ n → σ.2 2 (G 0 n).toNat = (if μ.2 7 n.toNat < 0 then G 1 n else G 0 (μ.2 7 n.toNat))) ∧
  (0 ≤ μ.2 7 n.toNat → μ.2 7 n.toNat < μ.1 8 ∧ G 6 (μ.2 7 n.toNat) = 1 ∧ G 1 (μ.2 7 n.toNat) = G 1 n ∧ G 2 (μ.2 7 n.toNat) = G 2 n)
def qIa (σ μ : z_S) (G : Nat → Int → Int) (n : Int) : Prop :=
  3 ≤ μ.2 3 n.toNat ∧ (¬ Qp μ n → σ.2 2 (pex μ (G 0) n).toNat = (if μ.2 9 n.toNat < 0 then G 1 n else G 0 (μ.2 9 n.toNat))) ∧
  (0 ≤ μ.2 9 n.toNat → μ.2 9 n.toNat < μ.1 8 ∧ G 6 (μ.2 9 n.toNat) = 1 ∧ G 1 (μ.2 9 n.toNat) = G 1 n ∧ G 2 (μ.2 9 n.toNat) = G 2 n)
def qPar (σ μ : z_S) (G : Nat → Int → Int) (n : Int) : Prop :=
  σ.2 1 (G 0 n).toNat = 2 * μ.2 3 n.toNat - 9 ∧ σ.2 1 (G 0 n + 1).toNat = 2 * μ.2 3 n.toNat - 8 ∧ σ.2 3 (G 0 n + 1).toNat = σ.2 3 (G 0 n).toNat ∧
  (0 ≤ μ.2 7 n.toNat ∧ μ.2 7 n.toNat < μ.1 8 ∧ μ.2 3 (μ.2 7 n.toNat).toNat = 1) ∧
  (0 ≤ μ.2 7 (μ.2 7 n.toNat).toNat ∧ μ.2 7 (μ.2 7 n.toNat).toNat < μ.1 8 ∧ μ.2 3 (μ.2 7 (μ.2 7 n.toNat).toNat).toNat = 2 ∧ G 1 (μ.2 7 (μ.2 7 n.toNat).toNat) = G 0 n + 1 ∧ G 2 (μ.2 7 (μ.2 7 n.toNat).toNat) = G 2 n + 1) ∧
  σ.2 2 (G 0 n).toNat = G 0 (μ.2 7 (μ.2 7 n.toNat).toNat) ∧
  (μ.2 3 n.toNat = 12 → σ.2 3 (G 0 n).toNat = μ.2 4 n.toNat ∧ 1 ≤ μ.2 4 n.toNat ∧ μ.2 4 n.toNat ≤ μ.1 9 ∧ G 4 (μ.2 4 n.toNat) = n) ∧
  (14 ≤ μ.2 3 n.toNat → 0 ≤ σ.2 3 (G 0 n).toNat ∧ σ.2 3 (G 0 n).toNat < σ.1 7 ∧ G 5 (σ.2 3 (G 0 n).toNat) = n)
def qRep (σ μ : z_S) (G : Nat → Int → Int) (n : Int) : Prop :=
  pRep σ μ (G 0) (G 2) (G 3) n ∧ σ.2 3 (G 0 n).toNat < σ.1 6 ∧ G 7 (μ.2 7 n.toNat) = 1 ∧ G 6 (μ.2 7 n.toNat) ≠ 1
/-- what holds of a node while it is read -/
def pNq (σ μ : z_S) (G : Nat → Int → Int) (n : Int) : Prop :=
  (1 ≤ μ.2 3 n.toNat ∧ μ.2 3 n.toNat ≤ 16) ∧
  (2 ≤ μ.2 3 n.toNat → 1 ≤ G 0 n ∧ G 0 n + eW (μ.2 3 n.toNat) ≤ σ.1 4 ∧ 1 ≤ G 2 n ∧ G 2 n ≤ 41 ∧ G 3 (G 0 n) = n ∧ (12 ≤ μ.2 3 n.toNat → G 3 (G 0 n + 1) = n) ∧ (μ.2 3 n.toNat = 16 → G 3 (G 0 n + 2) = n)) ∧
  (pTest σ μ (G 0) n ∧ (μ.2 3 n.toNat = 7 → σ.2 4 (G 0 n).toNat = μ.2 5 n.toNat)) ∧ (μ.2 3 n.toNat = 2 → qAlt σ μ G n ∧ pFin μ (G 0) (G 1) (G 2) n) ∧ (G 6 n = 1 → (qIa σ μ G n ∧ pFin μ (G 0) (G 1) (G 2) n) ∧ G 7 n = 1) ∧
  (12 ≤ μ.2 3 n.toNat → μ.2 3 n.toNat ≤ 15 → qPar σ μ G n) ∧ (μ.2 3 n.toNat = 16 → qRep σ μ G n)
section TG
variable {σ μ σ' μ' : z_S} {G G' : Nat → Int → Int} {n : Int}
/-- nothing that a node says has changed -/
theorem pNq_ag (h : pNq σ μ G n) (n0 : 0 ≤ n) (n1 : n < μ.1 8) (hR : μ.1 8 ≤ μ'.1 8 ∧ σ.1 4 ≤ σ'.1 4 ∧ σ.1 6 ≤ σ'.1 6 ∧ σ.1 7 ≤ σ'.1 7 ∧ μ.1 9 ≤ μ'.1 9 ∧ μ.1 10 ≤ μ'.1 10)
    (hk : ∀ m, 0 ≤ m → m < μ.1 8 → μ'.2 3 m.toNat = μ.2 3 m.toNat ∧ G' 0 m = G 0 m ∧ G' 2 m = G 2 m ∧ (μ.2 3 m.toNat = 1 → μ'.2 7 m.toNat = μ.2 7 m.toNat) ∧ (μ.2 3 m.toNat = 2 ∨ G 6 m = 1 → G' 1 m = G 1 m) ∧ (G 6 m = 1 → G' 6 m = 1) ∧ (G 7 m = 1 → G' 7 m = 1))
    (hn : μ'.2 4 n.toNat = μ.2 4 n.toNat ∧ μ'.2 5 n.toNat = μ.2 5 n.toNat ∧ μ'.2 6 n.toNat = μ.2 6 n.toNat ∧ μ'.2 7 n.toNat = μ.2 7 n.toNat ∧ μ'.2 9 n.toNat = μ.2 9 n.toNat ∧ (μ.2 3 n.toNat = 16 → μ'.2 10 n.toNat = μ.2 10 n.toNat ∧ μ'.2 11 n.toNat = μ.2 11 n.toNat))
    (hi : (G' 6 n = 1 → G 6 n = 1) ∧ (Qp μ n → Qp μ' n) ∧ (μ.2 3 n.toNat = 16 → G' 6 (μ.2 7 n.toNat) = 1 → G 6 (μ.2 7 n.toNat) = 1))
    (hw : ∀ p, 0 ≤ p → p < σ.1 4 → G' 3 p = G 3 p) (hs : ∀ p, 0 ≤ p → p < σ.1 4 → G 3 p = n → σ'.2 1 p.toNat = σ.2 1 p.toNat ∧ (μ.2 3 n.toNat = 2 ∨ G 6 n = 1 ∨ (12 ≤ μ.2 3 n.toNat ∧ p = G 0 n) ∨ μ.2 3 n.toNat = 16 → σ'.2 2 p.toNat = σ.2 2 p.toNat) ∧ σ'.2 3 p.toNat = σ.2 3 p.toNat ∧ σ'.2 4 p.toNat = σ.2 4 p.toNat)
    (hr : μ.2 3 n.toNat = 16 → σ'.2 2 (pex μ (G 0) (μ.2 7 n.toNat)).toNat = σ.2 2 (pex μ (G 0) (μ.2 7 n.toNat)).toNat) (ha : ∀ j, 7 ≤ j → j ≤ 12 → ∀ i : Nat, (i : Int) < σ.1 6 → σ'.2 j i = σ.2 j i)
    (hg : ∀ a, 1 ≤ a → a ≤ μ.1 9 → G' 4 a = G 4 a) (hl : ∀ a, 0 ≤ a → a < σ.1 7 → G' 5 a = G 5 a) : pNq σ' μ' G' n := by
  obtain ⟨h1, h2, ⟨h3, h3b⟩, h4, h5, h6, h7⟩ := h
  obtain ⟨k1, k2, k3, k4, k5, k6, k7⟩ := hk n n0 n1
  obtain ⟨e4, e5, e6, e7, e9, e1011⟩ := hn
  have hpx : ∀ m, 0 ≤ m → m < μ.1 8 → pex μ' (G' 0) m = pex μ (G 0) m := fun m m0 m1 => by
    unfold pex; rw [(hk m m0 m1).1, (hk m m0 m1).2.1]
  have hfin : (μ.2 3 n.toNat = 2 ∨ G 6 n = 1) → pFin μ (G 0) (G 1) (G 2) n → pFin μ' (G' 0) (G' 1) (G' 2) n := fun hh hf => by
    unfold pFin
    rw [k5 hh, k3]
    rcases hf with f | ⟨P, p0, p1, p2, p3, p4, p5⟩
    · exact Or.inl f
    · obtain ⟨q1, q2, q3, -⟩ := hk P p0 p1
      exact Or.inr ⟨P, p0, by omega, by rw [q1]; exact p2, by rw [q1]; exact p3, by rw [q2]; exact p4, by rw [q3]; exact p5⟩
  have hen : 2 ≤ μ.2 3 n.toNat → (0 ≤ G 0 n ∧ G 0 n < σ.1 4 ∧ G 3 (G 0 n) = n) := fun hh => by
    obtain ⟨a1, a2, a3, a4, a5, -⟩ := h2 hh
    have : 1 ≤ eW (μ.2 3 n.toNat) := by unfold eW; split <;> (try split) <;> omega
    exact ⟨by omega, by omega, a5⟩
  have hs0 : 2 ≤ μ.2 3 n.toNat → σ'.2 1 (G 0 n).toNat = σ.2 1 (G 0 n).toNat ∧ (μ.2 3 n.toNat = 2 ∨ G 6 n = 1 ∨ (12 ≤ μ.2 3 n.toNat ∧ G 0 n = G 0 n) ∨ μ.2 3 n.toNat = 16 → σ'.2 2 (G 0 n).toNat = σ.2 2 (G 0 n).toNat) ∧ σ'.2 3 (G 0 n).toNat = σ.2 3 (G 0 n).toNat ∧ σ'.2 4 (G 0 n).toNat = σ.2 4 (G 0 n).toNat := fun hh => by
    obtain ⟨a1, a2, a3⟩ := hen hh
    exact hs _ a1 a2 a3
  have hs1 : 12 ≤ μ.2 3 n.toNat → σ'.2 1 (G 0 n + 1).toNat = σ.2 1 (G 0 n + 1).toNat ∧ (μ.2 3 n.toNat = 2 ∨ G 6 n = 1 ∨ (12 ≤ μ.2 3 n.toNat ∧ G 0 n + 1 = G 0 n) ∨ μ.2 3 n.toNat = 16 → σ'.2 2 (G 0 n + 1).toNat = σ.2 2 (G 0 n + 1).toNat) ∧ σ'.2 3 (G 0 n + 1).toNat = σ.2 3 (G 0 n + 1).toNat ∧ σ'.2 4 (G 0 n + 1).toNat = σ.2 4 (G 0 n + 1).toNat := fun hh => by
    obtain ⟨a1, a2, a3, a4, a5, a6, -⟩ := h2 (by omega)
    have : 2 ≤ eW (μ.2 3 n.toNat) := by unfold eW; split <;> (try split) <;> omega
    exact hs _ (by omega) (by omega) (a6 hh)
  refine ⟨by rw [k1]; exact h1, fun hh => ?_, ⟨?_, fun hh => ?_⟩, fun hh => ?_, fun hh => ?_, fun hh hh2 => ?_, fun hh => ?_⟩
  · rw [k1] at hh ⊢
    obtain ⟨a1, a2, a3, a4, a5, a6, a7⟩ := h2 hh
    rw [k2, k3]
    have w1 : 1 ≤ eW (μ.2 3 n.toNat) := by unfold eW; split <;> (try split) <;> omega
    refine ⟨a1, by omega, a3, a4, by rw [hw _ (by omega) (by omega)]; exact a5, fun q => ?_, fun q => ?_⟩
    · have : 2 ≤ eW (μ.2 3 n.toNat) := by unfold eW; split <;> (try split) <;> omega
      rw [hw _ (by omega) (by omega)]; exact a6 q
    · have : 3 ≤ eW (μ.2 3 n.toNat) := by unfold eW; rw [if_pos q]; omega
      rw [hw _ (by omega) (by omega)]; exact a7 q
  · by_cases hh : 2 ≤ μ.2 3 n.toNat
    · obtain ⟨s1, s2, s3, s4⟩ := hs0 hh
      unfold pTest at h3 ⊢
      rw [k1, e4, e5, e6, k2, s1, s3, s4]
      obtain ⟨t3, t4, t5, t6, t7, t8⟩ := h3
      refine ⟨t3, t4, t5, fun q => ?_, t7, t8⟩
      obtain ⟨u1, u2, u3, u4, u5, u6⟩ := t6 q
      exact ⟨u1, u2, u3, u4, u5, by omega⟩
    · unfold pTest
      rw [k1]
      refine ⟨fun q => ?_, fun q => ?_, fun q => ?_, fun q => ?_, fun q => ?_, fun q => ?_, fun q => ?_, fun q => ?_, fun q => ?_⟩ <;> omega
  · rw [k1] at hh
    rw [k2, e5, (hs0 (by omega)).2.2.2]; exact h3b hh
  · rw [k1] at hh
    obtain ⟨⟨q1, q2, q3, q4, q5⟩, q6⟩ := h4 hh
    obtain ⟨s1, s2, s3, s4⟩ := hs0 (by omega)
    have s2 := s2 (Or.inl hh)
    refine ⟨⟨by rw [k2, s1]; exact q1, ?_, fun hb => ?_, fun hq => ?_, fun hb => ?_⟩, hfin (Or.inl hh) q6⟩
    · rw [k2, s3, e9, q2]
      by_cases c : μ.2 9 n.toNat < 0
      · rw [if_pos c, if_pos c]
      · rw [if_neg c, if_neg c, (hk _ (by omega) (q3 (by omega)).1).2.1]
    · rw [e9] at hb ⊢
      obtain ⟨b1, b2, b3, b4⟩ := q3 hb
      obtain ⟨m1, m2, m3, m4, m5, -⟩ := hk _ hb b1
      exact ⟨by omega, by rw [m1]; exact b2, by rw [m5 (Or.inl b2), k5 (Or.inl hh)]; exact b3, by rw [m3, k3]; exact b4⟩
    · rw [k2, s2, e7, q4 (fun z => hq (hi.2.1 z)), k5 (Or.inl hh)]
      by_cases c : μ.2 7 n.toNat < 0
      · rw [if_pos c, if_pos c]
      · rw [if_neg c, if_neg c, (hk _ (by omega) (q5 (by omega)).1).2.1]
    · rw [e7] at hb ⊢
      obtain ⟨b1, b2, b3, b4⟩ := q5 hb
      obtain ⟨m1, m2, m3, m4, m5, m6, -⟩ := hk _ hb b1
      exact ⟨by omega, m6 b2, by rw [m5 (Or.inr b2), k5 (Or.inl hh)]; exact b3, by rw [m3, k3]; exact b4⟩
  · have hg6 := hi.1 hh
    obtain ⟨⟨⟨q1, q2, q3⟩, q6⟩, q7⟩ := h5 hg6
    refine ⟨⟨⟨by rw [k1]; exact q1, fun hq => ?_, fun hb => ?_⟩, hfin (Or.inr hg6) q6⟩, k7 q7⟩
    · have hse : σ'.2 2 (pex μ (G 0) n).toNat = σ.2 2 (pex μ (G 0) n).toNat := by
        unfold pex
        split
        · exact (hs1 (by omega)).2.1 (Or.inr (Or.inl hg6))
        · exact (hs0 (by omega)).2.1 (Or.inr (Or.inl hg6))
      rw [hpx n n0 n1, hse, e9, q2 (fun z => hq (hi.2.1 z)), k5 (Or.inr hg6)]
      by_cases c : μ.2 9 n.toNat < 0
      · rw [if_pos c, if_pos c]
      · rw [if_neg c, if_neg c, (hk _ (by omega) (q3 (by omega)).1).2.1]
    · rw [e9] at hb ⊢
      obtain ⟨b1, b2, b3, b4⟩ := q3 hb
      obtain ⟨m1, m2, m3, m4, m5, m6, -⟩ := hk _ hb b1
      exact ⟨by omega, m6 b2, by rw [m5 (Or.inr b2), k5 (Or.inr hg6)]; exact b3, by rw [m3, k3]; exact b4⟩
  · rw [k1] at hh hh2
    obtain ⟨q1, q2, q3, q4, q5, q6, q7, q8⟩ := h6 hh hh2
    obtain ⟨s1, s2, s3, s4⟩ := hs0 (by omega)
    obtain ⟨r1, r2, r3, r4⟩ := hs1 hh
    have s2 := s2 (Or.inr (Or.inr (Or.inl ⟨hh, rfl⟩)))
    obtain ⟨m1, m2, m3, m4, -⟩ := hk _ q4.1 q4.2.1
    obtain ⟨l1, l2, l3, l4, l5, -⟩ := hk _ q5.1 q5.2.1
    unfold qPar
    rw [e7, m4 q4.2.2, k1, k2, k3, e4, s1, s2, s3, r1, r3, m1, l1, l2, l3, l5 (Or.inl q5.2.2.1)]
    refine ⟨q1, q2, q3, ⟨q4.1, by omega, q4.2.2⟩, ⟨q5.1, by omega, q5.2.2⟩, q6, fun q => ?_, fun q => ?_⟩
    · obtain ⟨a1, a2, a3, a4⟩ := q7 q
      exact ⟨a1, a2, by omega, by rw [hg _ a2 a3]; exact a4⟩
    · obtain ⟨a1, a2, a3⟩ := q8 q
      exact ⟨a1, by omega, by rw [hl _ a1 a2]; exact a3⟩
  · rw [k1] at hh
    obtain ⟨⟨q1, q2, q3, q4, q5, q6, q7, q8, q9, q10, q11⟩, q12, q13, q14⟩ := h7 hh
    obtain ⟨a1, a2, a3, a4, a5, a6, a7⟩ := h2 (by omega)
    have w3 : eW (μ.2 3 n.toNat) = 3 := by unfold eW; rw [if_pos hh]
    obtain ⟨s1, s2, s3, s4⟩ := hs0 (by omega)
    obtain ⟨r1, r2, r3, r4⟩ := hs1 (by omega)
    have r2 := r2 (Or.inr (Or.inr (Or.inr hh)))
    obtain ⟨t1, t2, t3, t4⟩ := hs (G 0 n + 2) (by omega) (by omega) (a7 hh)
    obtain ⟨m1, m2, m3, m4, m5, m6, m7⟩ := hk _ q6.1 q6.2.1
    obtain ⟨e10, e11⟩ := e1011 hh
    have hrp : ((σ.2 3 (G 0 n).toNat).toNat : Int) < σ.1 6 := by have := q5.1; omega
    refine ⟨?_, by rw [k2, s3]; omega, by rw [e7]; exact m7 q13, by rw [e7]; exact fun z => q14 (hi.2.2 hh z)⟩
    unfold pRep
    rw [e7, k2, hpx _ q6.1 q6.2.1, s1, r1, t1, s3, r3, t3, r2, hr hh, hw _ (by omega) (by omega), m1, m2, m3, k3, e4, e5, e6, e10, e11, ha 12 (by omega) (by omega) _ hrp, ha 7 (by omega) (by omega) _ hrp, ha 8 (by omega) (by omega) _ hrp, ha 9 (by omega) (by omega) _ hrp, ha 10 (by omega) (by omega) _ hrp, ha 11 (by omega) (by omega) _ hrp]
    exact ⟨q1, q2, q3, q4, q5, ⟨q6.1, by omega, q6.2.2⟩, q7, q8, q9, q10, q11⟩
end TG
