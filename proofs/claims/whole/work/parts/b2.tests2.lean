theorem zhas_c {N : Nat} {σ μ : z_S} {a b u : Int} (hN : 300 ≤ N) (hz : zin u) (h0 : 0 ≤ a) (h1 : a ≤ b) (h2 : b ≤ 200) (hm : ∀ i : Nat, (i : Int) < b → pMem σ μ i) :
    ∃ q : Bool, zMachine_hasMember N a b u σ = some (zb q, σ) ∧ (q = true ↔ ∃ j : Nat, a ≤ (j : Int) ∧ (j : Int) < b ∧ (pHas μ j u ∨ pHas μ j (if σ.1 9 = 0 then u else uT u))) := by
  rw [zMachine_hasMember_u]
  by_cases e : σ.1 9 = 0
  · rw [if_pos e, if_pos e]
    obtain ⟨q, g1, g2⟩ := zcmem_loop (N := N) (u := u) (t := u) h2 hm N a.toNat (by omega) (by omega)
    rw [show ((a.toNat : Nat) : Int) = a by omega] at g1
    exact ⟨q, g1, g2.trans ⟨fun ⟨j, a1, a2, a3⟩ => ⟨j, by omega, a2, a3⟩, fun ⟨j, a1, a2, a3⟩ => ⟨j, by omega, a2, a3⟩⟩⟩
  · rw [if_neg e, if_neg e, zc_twin hz]
    simp only [Option.bind_some]
    obtain ⟨q, g1, g2⟩ := zcmem_loop (N := N) (u := u) (t := uT u) h2 hm N a.toNat (by omega) (by omega)
    rw [show ((a.toNat : Nat) : Int) = a by omega] at g1
    exact ⟨q, g1, g2.trans ⟨fun ⟨j, a1, a2, a3⟩ => ⟨j, by omega, a2, a3⟩, fun ⟨j, a1, a2, a3⟩ => ⟨j, by omega, a2, a3⟩⟩⟩
/-- the units that count for a unit, in the reference's words and in the class's -/
theorem uT_set {u : Int} (P : Int → Prop) (h0 : 0 ≤ u) (h1 : u ≤ 65535) : (P u ∨ P (uU u) ∨ (uU (uU u + 32) = uU u ∧ P (uU u + 32)) ∨ (uU u = 376 ∧ P 255) ∨ (uU u = 924 ∧ P 181)) ↔ (P u ∨ P (uT u)) := by
  by_cases c1 : (97 ≤ u ∧ u ≤ 122) ∨ (224 ≤ u ∧ u ≤ 254 ∧ u ≠ 247)
  · have e : uU u = u - 32 := if_pos c1
    have e2 : uU (u - 32 + 32) = u - 32 := by rw [show u - 32 + 32 = u by omega]; exact e
    have e3 : uT u = u - 32 := by unfold uT; rw [e, if_neg (by omega)]
    rw [e, e2, e3, show u - 32 + 32 = u by omega]
    constructor
    · rintro (h | h | h | h | h)
      · exact Or.inl h
      · exact Or.inr h
      · exact Or.inl h.2
      · omega
      · omega
    · rintro (h | h)
      · exact Or.inl h
      · exact Or.inr (Or.inl h)
  · by_cases c2 : u = 255
    · subst c2
      have e : uU 255 = 376 := by decide
      have e2 : uU (376 + 32) = 408 := by decide
      have e3 : uT 255 = 376 := by decide
      rw [e, e2, e3]
      constructor
      · rintro (h | h | h | h | h)
        · exact Or.inl h
        · exact Or.inr h
        · omega
        · exact Or.inl h.2
        · omega
      · rintro (h | h)
        · exact Or.inl h
        · exact Or.inr (Or.inl h)
    · by_cases c3 : u = 181
      · subst c3
        have e : uU 181 = 924 := by decide
        have e2 : uU (924 + 32) = 956 := by decide
        have e3 : uT 181 = 924 := by decide
        rw [e, e2, e3]
        constructor
        · rintro (h | h | h | h | h)
          · exact Or.inl h
          · exact Or.inr h
          · omega
          · omega
          · exact Or.inl h.2
        · rintro (h | h)
          · exact Or.inl h
          · exact Or.inr (Or.inl h)
      · have e : uU u = u := by unfold uU; rw [if_neg c1, if_neg c2, if_neg c3]
        by_cases c4 : (65 ≤ u ∧ u ≤ 90) ∨ (192 ≤ u ∧ u ≤ 222 ∧ u ≠ 215)
        · have e2 : uU (u + 32) = u := by unfold uU; rw [if_pos (by omega)]; omega
          have e3 : uT u = u + 32 := by unfold uT; rw [e, if_pos rfl, if_pos c4]
          rw [e, e2, e3]
          constructor
          · rintro (h | h | h | h | h)
            · exact Or.inl h
            · exact Or.inl h
            · exact Or.inr h.2
            · omega
            · omega
          · rintro (h | h)
            · exact Or.inl h
            · exact Or.inr (Or.inr (Or.inl ⟨rfl, h⟩))
        · have e2 : uU (u + 32) ≠ u := by
            unfold uU
            (repeat' split) <;> omega
          have e3 : uT u = if u = 376 then 255 else if u = 924 then 181 else u := by unfold uT; rw [e, if_pos rfl, if_neg c4]
          rw [e, e3]
          by_cases d1 : u = 376
          · rw [if_pos d1]
            constructor
            · rintro (h | h | h | h | h)
              · exact Or.inl h
              · exact Or.inl h
              · exact absurd h.1 e2
              · exact Or.inr h.2
              · omega
            · rintro (h | h)
              · exact Or.inl h
              · exact Or.inr (Or.inr (Or.inr (Or.inl ⟨d1, h⟩)))
          · rw [if_neg d1]
            by_cases d2 : u = 924
            · rw [if_pos d2]
              constructor
              · rintro (h | h | h | h | h)
                · exact Or.inl h
                · exact Or.inl h
                · exact absurd h.1 e2
                · omega
                · exact Or.inr h.2
              · rintro (h | h)
                · exact Or.inl h
                · exact Or.inr (Or.inr (Or.inr (Or.inr ⟨d2, h⟩)))
            · rw [if_neg d2]
              constructor
              · rintro (h | h | h | h | h)
                · exact Or.inl h
                · exact Or.inl h
                · exact absurd h.1 e2
                · omega
                · omega
              · rintro (h | h)
                · exact Or.inl h
                · exact Or.inl h
theorem zhas_m {N : Nat} {μ : z_S} {x u : Int} (hN : 300 ≤ N) (h0 : 0 ≤ u) (h1 : u ≤ 65535) (hx0 : 0 ≤ x) (hx : x < 1300) (ha : 0 ≤ μ.2 4 x.toNat) (hab : μ.2 4 x.toNat ≤ μ.2 5 x.toNat) (hb : μ.2 5 x.toNat ≤ 200) (hm : ∀ i : Nat, (i : Int) < μ.2 5 x.toNat → μ.2 13 i < 0 → uLt (μ.2 12 i)) :
    ∃ q : Bool, zMod_hasMember N x u μ = some (zb q, μ) ∧ (q = true ↔ ∃ j : Nat, μ.2 4 x.toNat ≤ (j : Int) ∧ (j : Int) < μ.2 5 x.toNat ∧ (pHas μ j u ∨ pHas μ j (if μ.1 3 = 0 then u else uT u))) := by
  have hu : uU u = u - 32 ∨ uU u = 376 ∨ uU u = 924 ∨ uU u = u := by unfold uU; (repeat' split) <;> omega
  have hz : zin u := ⟨by omega, by omega⟩
  have hzu : zin (uU u) := ⟨by omega, by omega⟩
  have hz2 : zin (uU u + 32) := ⟨by omega, by omega⟩
  have M : ∀ v, ∃ b : Bool, zMod_isMember N x v μ = some (zb b, μ) ∧ (b = true ↔ ∃ j : Nat, μ.2 4 x.toNat ≤ (j : Int) ∧ (j : Int) < μ.2 5 x.toNat ∧ pHas μ j v) := fun v => zmem_e hN hx0 hx ha hab hb hm
  rw [zMod_hasMember_u]
  by_cases e : μ.1 3 = 0
  · rw [if_pos e, if_pos e]
    obtain ⟨b, g1, g2⟩ := M u
    rw [g1]
    simp only [Option.bind_some]
    rw [if_pos (zb_B b)]
    exact ⟨b, rfl, g2.trans ⟨fun ⟨j, a1, a2, a3⟩ => ⟨j, a1, a2, Or.inl a3⟩, fun ⟨j, a1, a2, a3⟩ => ⟨j, a1, a2, by rcases a3 with h | h <;> exact h⟩⟩⟩
  · rw [if_neg e, if_neg e, zm_upper hz]
    obtain ⟨b1, g1, k1⟩ := M u
    obtain ⟨b2, g2, k2⟩ := M (uU u)
    obtain ⟨b3, g3, k3⟩ := M (uU u + 32)
    obtain ⟨b4, g4, k4⟩ := M 255
    obtain ⟨b5, g5, k5⟩ := M 181
    let q : Bool := b1 || b2 || (decide (uU (uU u + 32) = uU u) && b3) || (decide (uU u = 376) && b4) || (decide (uU u = 924) && b5)
    have key : (∃ j : Nat, μ.2 4 x.toNat ≤ (j : Int) ∧ (j : Int) < μ.2 5 x.toNat ∧ (pHas μ j u ∨ pHas μ j (uT u))) ↔ q = true := by
      have s := uT_set (u := u) (fun v => ∃ j : Nat, μ.2 4 x.toNat ≤ (j : Int) ∧ (j : Int) < μ.2 5 x.toNat ∧ pHas μ j v) h0 h1
      rw [← k1, ← k2, ← k3, ← k4, ← k5] at s
      have t : (∃ j : Nat, μ.2 4 x.toNat ≤ (j : Int) ∧ (j : Int) < μ.2 5 x.toNat ∧ (pHas μ j u ∨ pHas μ j (uT u))) ↔ (b1 = true ∨ ∃ j : Nat, μ.2 4 x.toNat ≤ (j : Int) ∧ (j : Int) < μ.2 5 x.toNat ∧ pHas μ j (uT u)) := by
        rw [k1]
        constructor
        · rintro ⟨j, a1, a2, a3 | a3⟩
          · exact Or.inl ⟨j, a1, a2, a3⟩
          · exact Or.inr ⟨j, a1, a2, a3⟩
        · rintro (⟨j, a1, a2, a3⟩ | ⟨j, a1, a2, a3⟩)
          · exact ⟨j, a1, a2, Or.inl a3⟩
          · exact ⟨j, a1, a2, Or.inr a3⟩
      rw [t, ← s]
      simp only [q, Bool.or_eq_true, Bool.and_eq_true, decide_eq_true_eq, or_assoc]
    refine ⟨q, ?_, key.symm⟩
    simp only [Option.bind_some, g1, g2, zb_0, if_pos hz2, zm_upper hz2, g3, g4, g5, if_pos zB_0, if_pos zB_1]
    by_cases d3 : uU (uU u + 32) = uU u <;> by_cases d4 : uU u = 376 <;> by_cases d5 : uU u = 924 <;> cases b1 <;> cases b2 <;> cases b3 <;> cases b4 <;> cases b5 <;> simp [q, d3, d4, d5, zb] <;> (split <;> rfl)
theorem zsame_c {N : Nat} {σ : z_S} {u v : Int} (hu : zin u) (hv : zin v) : zMachine_isSame N u v σ = some (zb (decide (u = v) || (!decide (σ.1 9 = 0) && decide (uU u = uU v))), σ) := by
  rw [zMachine_isSame_u]
  simp only [zc_upper hu, zc_upper hv, Option.bind_some, if_pos zB_0, if_pos zB_1]
  by_cases a : u = v <;> by_cases b : σ.1 9 = 0 <;> by_cases c : uU u = uU v <;> simp [a, b, c, zb]
theorem zsame_m {N : Nat} {μ : z_S} {u v : Int} (hu : zin u) (hv : zin v) : zMod_isSame N u v μ = some (zb (decide (u = v) || (!decide (μ.1 3 = 0) && decide (uU u = uU v))), μ) := by
  rw [zMod_isSame_u]
  simp only [zm_upper hu, zm_upper hv, Option.bind_some, if_pos zB_0, if_pos zB_1]
  by_cases a : u = v <;> by_cases b : μ.1 3 = 0 <;> by_cases c : uU u = uU v <;> simp [a, b, c, zb]
