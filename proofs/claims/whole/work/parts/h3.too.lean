section TO
variable {N : Nat} {σ μ : z_S} {G : Nat → Int → Int}
theorem cG (h4 : σ.1 4 ≤ 602) : ∀ (n : Nat) (p : Int), 0 ≤ p → σ.1 4 + 1 ≤ p + n → p ≤ σ.1 4 →
    ((∀ q, p ≤ q → q < σ.1 4 → σ.2 1 q.toNat = 6 → σ.2 3 q.toNat ≤ σ.1 8) ∧ zReader_tooGreatReference_l2 N n p σ = some (-1, σ)) ∨
    ∃ q, p ≤ q ∧ q < σ.1 4 ∧ σ.2 1 q.toNat = 6 ∧ σ.1 8 < σ.2 3 q.toNat ∧ (∀ r, p ≤ r → r < q → σ.2 1 r.toNat = 6 → σ.2 3 r.toNat ≤ σ.1 8) ∧ zReader_tooGreatReference_l2 N n p σ = some (σ.2 4 q.toNat, σ) := by
  intro n
  induction n with
  | zero => intro p h0 h1 h2; omega
  | succ n ih =>
    intro p h0 h1 h2
    rw [zReader_tooGreatReference_l2_s]
    by_cases c : σ.1 4 ≤ p
    · rw [if_pos c]
      exact Or.inl ⟨fun q q0 q1 => by omega, rfl⟩
    · rw [if_neg c, zrr (by decide) h0 (by show p < (602 : Int); omega)]
      simp only [Option.bind_some]
      have hne : (∀ x, x = p → σ.2 1 x.toNat = 6 → σ.2 3 x.toNat ≤ σ.1 8) → (if zin (p + 1) then (zReader_tooGreatReference_l2 N n) (p + 1) σ else none) = zReader_tooGreatReference_l2 N n (p + 1) σ → ((∀ q, p ≤ q → q < σ.1 4 → σ.2 1 q.toNat = 6 → σ.2 3 q.toNat ≤ σ.1 8) ∧ zReader_tooGreatReference_l2 N n (p + 1) σ = some (-1, σ)) ∨
          ∃ q, p ≤ q ∧ q < σ.1 4 ∧ σ.2 1 q.toNat = 6 ∧ σ.1 8 < σ.2 3 q.toNat ∧ (∀ r, p ≤ r → r < q → σ.2 1 r.toNat = 6 → σ.2 3 r.toNat ≤ σ.1 8) ∧ zReader_tooGreatReference_l2 N n (p + 1) σ = some (σ.2 4 q.toNat, σ) := fun hp _ => by
        rcases ih (p + 1) (by omega) (by omega) (by omega) with ⟨a1, a2⟩ | ⟨q, a1, a2, a3, a4, a5, a6⟩
        · refine Or.inl ⟨fun q q0 q1 q2 => ?_, a2⟩
          by_cases e : q = p
          · exact hp q e q2
          · exact a1 q (by omega) q1 q2
        · refine Or.inr ⟨q, by omega, a2, a3, a4, fun r r0 r1 r2 => ?_, a6⟩
          by_cases e : r = p
          · exact hp r e r2
          · exact a5 r (by omega) r1 r2
      have iz : zin (p + 1) := ⟨by omega, by omega⟩
      by_cases c6 : σ.2 1 p.toNat = 6
      · rw [if_pos c6, zrr (by decide) h0 (by show p < (602 : Int); omega)]
        simp only [Option.bind_some]
        by_cases c8 : σ.2 3 p.toNat ≤ σ.1 8
        · rw [if_pos c8, if_pos iz]
          exact hne (fun x e _ => by rw [e]; exact c8) (if_pos iz)
        · rw [if_neg c8, zrr (by decide) h0 (by show p < (602 : Int); omega)]
          exact Or.inr ⟨p, Int.le_refl _, by omega, c6, by omega, fun r r0 r1 => by omega, rfl⟩
      · rw [if_neg c6, if_pos iz]
        exact hne (fun x e z => absurd (by rw [← e]; exact z) c6) (if_pos iz)
theorem mGw (h8 : μ.1 8 ≤ 1300) (hw : 0 ≤ μ.1 12) : ∀ (n : Nat) (p : Int), 0 ≤ p → μ.1 8 + 1 ≤ p + n → p ≤ μ.1 8 → zMod_read_l77 N n p μ = some (0, μ) := by
  intro n
  induction n with
  | zero => intro p h0 h1 h2; omega
  | succ n ih =>
    intro p h0 h1 h2
    rw [zMod_read_l77_s]
    by_cases c : μ.1 8 ≤ p
    · rw [if_pos c]
    · have iz : zin (p + 1) := ⟨by omega, by omega⟩
      have ip : zIn p 1300 := ⟨h0, by omega⟩
      have hi := ih (p + 1) (by omega) (by omega) (by omega)
      rw [if_neg c, if_pos ip, if_pos ip, if_pos ip, zfb hw]
      simp only [Option.bind_some]
      rw [if_pos iz, hi, ite_self, ite_self]
theorem mG (h8 : μ.1 8 ≤ 1300) (hw : μ.1 12 < 0) : ∀ (n : Nat) (p : Int), 0 ≤ p → μ.1 8 + 1 ≤ p + n → p ≤ μ.1 8 →
    ((∀ q, p ≤ q → q < μ.1 8 → μ.2 3 q.toNat = 7 → μ.2 4 q.toNat ≤ μ.1 9) ∧ zMod_read_l77 N n p μ = some (0, μ)) ∨
    ∃ q, p ≤ q ∧ q < μ.1 8 ∧ μ.2 3 q.toNat = 7 ∧ μ.1 9 < μ.2 4 q.toNat ∧ (∀ r, p ≤ r → r < q → μ.2 3 r.toNat = 7 → μ.2 4 r.toNat ≤ μ.1 9) ∧ (0 ≤ μ.2 5 q.toNat → zMod_read_l77 N n p μ = some (0, zF μ 12 (μ.2 5 q.toNat))) := by
  intro n
  induction n with
  | zero => intro p h0 h1 h2; omega
  | succ n ih =>
    intro p h0 h1 h2
    rw [zMod_read_l77_s]
    by_cases c : μ.1 8 ≤ p
    · rw [if_pos c]
      exact Or.inl ⟨fun q q0 q1 => by omega, rfl⟩
    · have iz : zin (p + 1) := ⟨by omega, by omega⟩
      have ip : zIn p 1300 := ⟨h0, by omega⟩
      rw [if_neg c, if_pos ip]
      have hne : (∀ x, x = p → μ.2 3 x.toNat = 7 → μ.2 4 x.toNat ≤ μ.1 9) → ((∀ q, p ≤ q → q < μ.1 8 → μ.2 3 q.toNat = 7 → μ.2 4 q.toNat ≤ μ.1 9) ∧ zMod_read_l77 N n (p + 1) μ = some (0, μ)) ∨
          ∃ q, p ≤ q ∧ q < μ.1 8 ∧ μ.2 3 q.toNat = 7 ∧ μ.1 9 < μ.2 4 q.toNat ∧ (∀ r, p ≤ r → r < q → μ.2 3 r.toNat = 7 → μ.2 4 r.toNat ≤ μ.1 9) ∧ (0 ≤ μ.2 5 q.toNat → zMod_read_l77 N n (p + 1) μ = some (0, zF μ 12 (μ.2 5 q.toNat))) := fun hp => by
        rcases ih (p + 1) (by omega) (by omega) (by omega) with ⟨a1, a2⟩ | ⟨q, a1, a2, a3, a4, a5, a6⟩
        · refine Or.inl ⟨fun q q0 q1 q2 => ?_, a2⟩
          by_cases e : q = p
          · exact hp q e q2
          · exact a1 q (by omega) q1 q2
        · refine Or.inr ⟨q, by omega, a2, a3, a4, fun r r0 r1 r2 => ?_, a6⟩
          by_cases e : r = p
          · exact hp r e r2
          · exact a5 r (by omega) r1 r2
      by_cases c6 : μ.2 3 p.toNat = 7
      · rw [if_pos c6, if_pos ip]
        by_cases c8 : μ.2 4 p.toNat ≤ μ.1 9
        · rw [if_pos c8, if_pos iz]
          exact hne (fun x e _ => by rw [e]; exact c8)
        · rw [if_neg c8, if_pos ip, zfa hw]
          simp only [Option.bind_some]
          rw [if_pos iz]
          exact Or.inr ⟨p, Int.le_refl _, by omega, c6, by omega, fun r r0 r1 => by omega, fun hz => mGw (μ := zF μ 12 (μ.2 5 p.toNat)) h8 hz n (p + 1) (by omega) (by show μ.1 8 + 1 ≤ _; omega) (by show _ ≤ μ.1 8; omega)⟩
      · rw [if_neg c6, if_pos iz]
        exact hne (fun x e z => absurd (by rw [← e]; exact z) c6)
/-- the first reference beyond the groups -/
theorem zToo (hN : 2000 ≤ N) (hn : pTn σ μ G) (h4 : σ.1 4 ≤ 602) (h8 : μ.1 8 ≤ 1300) (hw : μ.1 12 < 0) :
    ((∀ n, 0 ≤ n → n < μ.1 8 → μ.2 3 n.toNat = 7 → μ.2 4 n.toNat ≤ μ.1 9) ∧ zReader_tooGreatReference N σ = some (-1, σ) ∧ zMod_read_l77 N N 0 μ = some (0, μ)) ∨
    ∃ v, 0 ≤ v ∧ zReader_tooGreatReference N σ = some (v, σ) ∧ zMod_read_l77 N N 0 μ = some (0, zF μ 12 v) := by
  obtain ⟨N1, N2, N3, N4, N5, N6, N7, N8⟩ := id hn.2.2.2.2.2
  obtain ⟨H1, -, -, H4, H5, -⟩ := id hn
  have hb : ∀ m, 0 ≤ m → m < μ.1 8 → μ.2 3 m.toNat = 7 → (0 ≤ G 0 m ∧ G 0 m < σ.1 4) ∧ σ.2 1 (G 0 m).toNat = 6 ∧ (σ.2 3 (G 0 m).toNat = μ.2 4 m.toNat ∨ (1000 < σ.2 3 (G 0 m).toNat ∧ 1000 < μ.2 4 m.toNat)) ∧ σ.2 4 (G 0 m).toNat = μ.2 5 m.toNat ∧ 0 ≤ μ.2 5 m.toNat := fun m m0 m1 mk => by
    have h := H1 m m0 m1
    have hbd := en_bd h (by omega)
    have ht := h.2.2.1.1.2.2.2.2.1 mk
    exact ⟨⟨hbd.1, hbd.2.1⟩, ht.1, ht.2.1, h.2.2.1.2 mk, ht.2.2.2⟩
  have hC : zReader_tooGreatReference N σ = zReader_tooGreatReference_l2 N N 0 σ := rfl
  rw [hC]
  rcases mG (N := N) h8 hw N 0 (by omega) (by omega) (by omega) with ⟨a1, a2⟩ | ⟨q, a1, a2, a3, a4, a5, a6⟩
  · rcases cG (N := N) h4 N 0 (by omega) (by omega) (by omega) with ⟨c1, c2⟩ | ⟨p, c1, c2, c3, c4, c5, c6⟩
    · exact Or.inl ⟨a1, c2, a2⟩
    · exfalso
      obtain ⟨k1, k2, k3, k4⟩ := H4 p c1 c2 c3
      have h1 := a1 _ k1 k2 k3
      have h2 := (hb _ k1 k2 k3).2.2.1
      rw [k4] at h2
      omega
  · have hq := hb q a1 a2 a3
    rcases cG (N := N) h4 N 0 (by omega) (by omega) (by omega) with ⟨c1, c2⟩ | ⟨p, c1, c2, c3, c4, c5, c6⟩
    · exfalso
      have h1 := c1 _ hq.1.1 hq.1.2 hq.2.1
      have h2 := hq.2.2.1
      omega
    · obtain ⟨k1, k2, k3, k4⟩ := H4 p c1 c2 c3
      have hkb := hb _ k1 k2 k3
      rw [k4] at hkb
      have e : G 3 p = q := by
        by_cases e1 : G 3 p < q
        · have h1 := a5 _ k1 e1 k3
          have h2 := hkb.2.2.1
          omega
        · by_cases e2 : q < G 3 p
          · have h1 := H5 _ _ a1 e2 k2 a3 k3
            rw [k4] at h1
            have h2 := c5 _ hq.1.1 h1 hq.2.1
            have h3 := hq.2.2.1
            omega
          · omega
      rw [e] at k4 hkb
      refine Or.inr ⟨μ.2 5 q.toNat, hq.2.2.2.2, ?_, a6 hq.2.2.2.2⟩
      rw [c6, hkb.2.2.2.1]
end TO
