section FI
variable {N : Nat} {σ μ : z_S} {G : Nat → Int → Int}
/-- the last link makes it whole -/
theorem pAll_fin {b : Int} (hS : pS σ μ G b 0) (hd : μ.1 14 = 0) (hbk : ∀ n, 0 ≤ n → n < μ.1 8 → μ.2 3 n.toNat = 7 → μ.2 4 n.toNat ≤ μ.1 9) : pAll (zA σ 2 (σ.1 16).toNat 0) μ (G 0) (G 1) (G 2) (G 3) (G 4) (G 5) (fun n => G 6 n = 1) := by
  obtain ⟨hx, hn, hl, ⟨ha, hma, h0, h1⟩, ⟨hs0, hw⟩, ⟨h5, hpm⟩, hB1, hB2, hB3, hB4, hB5⟩ := id hS
  have h200 := hx.2.2.1
  obtain ⟨N1, N2, N3, N4, N5, N6, N7, N8⟩ := id hn.2.2.2.2.2
  obtain ⟨H1, H2, H3, H4, H5, -⟩ := id hn
  obtain ⟨-, hlv, -, c15, c16⟩ := id hl
  have hL := hlv (μ.1 14) (by omega) (Int.le_refl _)
  obtain ⟨q0, q1, q2, q3⟩ := qN_bd hL
  obtain ⟨l1, l2, l3, l4, -⟩ := id hL
  have l4 := l4 hd
  have hqd : qN μ (μ.1 14) = (if μ.2 8 (μ.2 16 (μ.1 14).toNat).toNat < 0 then μ.2 16 (μ.1 14).toNat else μ.2 8 (μ.2 16 (μ.1 14).toNat).toNat) := rfl
  generalize hA : μ.2 16 (μ.1 14).toNat = A at *
  generalize hq : qN μ (μ.1 14) = q at *
  have hnq := H1 q q0 q1
  have q2k : 2 ≤ μ.2 3 q.toNat := by
    rcases q3 with e | e
    · omega
    · have := (hnq.2.2.2.2.1 e).1.1.1; omega
  have hbq := en_bd hnq q2k
  have hQp : ∀ n, Qp μ n → n = q := fun n ⟨j, j0, j1, e⟩ => by
    have : j = μ.1 14 := by omega
    rw [e, this, hq]
  have ht : 0 ≤ σ.1 16 ∧ G 3 (σ.1 16) = q := by rw [c16]; exact ⟨hbq.2.2.1, hbq.2.2.2.2.1⟩
  have hu : ∀ i : Nat, i ≠ (σ.1 16).toNat → (zA σ 2 (σ.1 16).toNat 0).2 2 i = σ.2 2 i := fun i hi => zupd_n hi
  have hus : (zA σ 2 (σ.1 16).toNat 0).2 2 (σ.1 16).toNat = 0 := zupd_s _ _ _
  have hup : ∀ p, 0 ≤ p → p ≠ σ.1 16 → (zA σ 2 (σ.1 16).toNat 0).2 2 p.toNat = σ.2 2 p.toNat := fun p p0 pn => hu _ (by omega)
  have hno : ∀ p, 0 ≤ p → G 3 p ≠ q → (zA σ 2 (σ.1 16).toNat 0).2 2 p.toNat = σ.2 2 p.toNat := fun p p0 pn => hup p p0 (fun e => pn (by rw [e]; exact ht.2))
  -- what the last node is
  have hqc : (μ.2 3 q.toNat = 2 ∧ G 6 q ≠ 1 ∧ μ.2 7 q.toNat < 0 ∧ G 1 q = 0) ∨ (3 ≤ μ.2 3 q.toNat ∧ G 6 q = 1 ∧ μ.2 9 q.toNat < 0 ∧ G 1 q = 0) := by
    rcases l3 with ⟨y1, y2⟩ | ⟨y1, y2, y3, y4, y5, y6, y7⟩
    · rw [if_pos y2] at hqd
      rw [hqd]
      refine Or.inl ⟨l1.2.2.1, fun z => ?_, y1, l4⟩
      have := ((H1 A l1.1 l1.2.1).2.2.2.2.1 z).1.1.1
      have := l1.2.2.1
      omega
    · rw [if_neg (by omega)] at hqd
      rw [← hqd] at y4 y5 y7
      exact Or.inr ⟨(hnq.2.2.2.2.1 y4).1.1.1, y4, y7, by rw [y5]; exact l4⟩
  refine ⟨⟨N1, by omega, N6, N7, N5, N8, by omega⟩, H2, fun n n0 n1 => ?_, hpm, hbk, ?_⟩
  · obtain ⟨k1, k2, ⟨k3, k3b⟩, k4, k5, k6, k7⟩ := H1 n n0 n1
    have hnn := H1 n n0 n1
    refine ⟨k1, fun z => ?_, k3, fun z => ?_, fun z => ?_, fun z z2 => ?_, fun z => ?_⟩
    · obtain ⟨a1, a2, a3, a4, a5, a6, a7⟩ := k2 z
      have : 1 ≤ eW (μ.2 3 n.toNat) := by unfold eW; split <;> (try split) <;> omega
      exact ⟨a1, by omega, a3, a4⟩
    · obtain ⟨⟨a1, a2, a3, a4, a5⟩, a6⟩ := k4 z
      have hbd := en_bd hnn (by omega)
      refine ⟨⟨a1, a2, a3, ?_, a5⟩, a6⟩
      by_cases e : n = q
      · rcases hqc with ⟨y1, y2, y3, y4⟩ | ⟨y1, y2, y3, y4⟩
        · rw [← e] at y1 y3 y4
          have ex : σ.1 16 = G 0 n := by rw [c16, ← e]; unfold pex; rw [if_neg (by omega)]
          rw [← ex, hus, if_pos y3, y4]
        · rw [e] at z; omega
      · rw [hno _ hbd.1 (by rw [hbd.2.2.2.2.2]; exact e)]
        exact a4 (fun z => e (hQp n z))
    · obtain ⟨⟨⟨a1, a2, a3⟩, a4⟩, a5⟩ := k5 z
      have hbd := en_bd hnn (by omega)
      refine ⟨⟨a1, ?_, a3⟩, a4⟩
      by_cases e : n = q
      · rcases hqc with ⟨y1, y2, y3, y4⟩ | ⟨y1, y2, y3, y4⟩
        · exact absurd (by rw [← e]; exact z) y2
        · rw [← e] at y3 y4
          have ex : σ.1 16 = pex μ (G 0) n := by rw [c16, ← e]
          rw [← ex, hus, if_pos y3, y4]
      · rw [hno _ hbd.2.2.1 (by rw [hbd.2.2.2.2.1]; exact e)]
        exact a2 (fun z => e (hQp n z))
    · obtain ⟨a1, a2, a3, a4, a5, a6, a7, a8⟩ := k6 z z2
      have hbd := en_bd hnn (by omega)
      refine ⟨a1, a2, (k2 (by omega)).2.2.2.2.2.1 z, a3, a4, a5, ?_, fun y => ?_, fun y => ?_⟩
      · rw [hup _ hbd.1 ?_]
        · exact a6
        · by_cases e : n = q
          · rw [c16, ← e]; unfold pex; rw [if_pos ⟨z, z2⟩]; omega
          · intro w
            have h3 := hbd.2.2.2.2.2
            rw [w, ht.2] at h3
            exact e h3.symm
      · obtain ⟨b1, b2, b3, b4⟩ := a7 y
        exact ⟨b1, b2, by omega, b4⟩
      · obtain ⟨b1, b2, b3⟩ := a8 y
        exact ⟨b1, by show σ.2 3 (G 0 n).toNat < 50; omega, b3⟩
    · obtain ⟨⟨r1, r2, r3, r4, r5, r6, r7, r8, r9, r10, r11⟩, r12, r13, r14⟩ := k7 z
      obtain ⟨a1, a2, a3, a4, a5, a6, a7⟩ := k2 (by omega)
      have hbd := en_bd hnn (by omega)
      have hcd := en_bd (H1 _ r6.1 r6.2.1) (by omega)
      refine ⟨r1, r2, r3, r4, r5, r6, ?_, ?_, r9, r10, r11⟩
      · rw [hup _ (by omega) ?_]
        · exact r7
        · by_cases e : n = q
          · rw [c16, ← e]; unfold pex; rw [if_neg (by omega)]; omega
          · intro w
            have h3 := a6 (by omega)
            rw [w, ht.2] at h3
            exact e h3.symm
      · rw [hno _ hcd.2.2.1 ?_]
        · exact r8
        · rw [hcd.2.2.2.2.1]
          intro w
          rcases hqc with ⟨y1, y2, y3, y4⟩ | ⟨y1, y2, y3, y4⟩
          · rw [← w] at y1; omega
          · rw [← w] at y2; exact r14 y2
  · refine ⟨by show σ.1 4 ≤ 602; omega, fun n n0 n1 z z2 => ?_, fun p p0 p1 hp => ?_⟩
    · have h2 := ((H1 n n0 n1).2.1 (by omega)).2.1
      have : 2 ≤ eW (μ.2 3 n.toNat) := by unfold eW; split <;> (try split) <;> omega
      show G 0 n + 1 < σ.1 4
      omega
    · have hE := H3 p p0 p1 hp
      refine ⟨⟨hE.1.1, hE.1.2.1⟩, ?_⟩
      by_cases e : p = σ.1 16
      · rw [e, hus]
        intro hz
        exfalso
        have : σ.2 1 0 = 0 := H2.1
        rcases hz with z | z | z | z
        · have z : σ.2 1 0 = 16 := z; omega
        · have z : σ.2 1 0 = 18 := z; omega
        · have z : σ.2 1 0 = 20 := z; omega
        · have z : σ.2 1 0 = 22 := z; omega
      · rw [hup p p0 e]
        exact hE.2.2
end FI
