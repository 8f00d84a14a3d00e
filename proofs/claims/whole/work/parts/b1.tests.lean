/-! a test of the pattern: the class and the reference say the same -/
theorem zF_id {σ : z_S} {k : Nat} {v : Int} (h : σ.1 k = v) : zF σ k v = σ := by
  refine Prod.ext (funext fun j => ?_) rfl
  rw [zF_1]
  by_cases e : j = k
  · rw [if_pos e, e, h]
  · rw [if_neg e]
def pHas (μ : z_S) (i : Nat) (v : Int) : Prop := (μ.2 13 i < 0 ∧ uS (μ.2 12 i) v = true) ∨ (0 ≤ μ.2 13 i ∧ μ.2 12 i ≤ v ∧ v ≤ μ.2 13 i)
theorem zmem_loop {N : Nat} {μ : z_S} {x v : Int} (hx0 : 0 ≤ x) (hx : x < 1300) (hb : μ.2 5 x.toNat ≤ 200) (hm : ∀ i : Nat, (i : Int) < μ.2 5 x.toNat → μ.2 13 i < 0 → uLt (μ.2 12 i)) : ∀ (n i : Nat), (μ.2 5 x.toNat).toNat + 1 ≤ i + n → i ≤ (μ.2 5 x.toNat).toNat →
    ∃ b : Bool, zMod_isMember_l7 N n x v (i : Int) μ = some (zb b, μ) ∧ (b = true ↔ ∃ j : Nat, i ≤ j ∧ (j : Int) < μ.2 5 x.toNat ∧ pHas μ j v) := by
  intro n
  induction n with
  | zero => intro i h1 h2; omega
  | succ n ih =>
    intro i h1 h2
    rw [zMod_isMember_l7_s, if_pos ⟨hx0, by omega⟩]
    by_cases q : μ.2 5 x.toNat ≤ (i : Int)
    · rw [if_pos q]
      exact ⟨false, rfl, ⟨fun h => (by cases h), fun ⟨j, a, b, _⟩ => by omega⟩⟩
    · rw [if_neg q, if_pos ⟨by omega, by omega⟩, show (i : Int).toNat = i by omega]
      obtain ⟨b, g1, g2⟩ := ih (i + 1) (by omega) (by omega)
      rw [show ((i + 1 : Nat) : Int) = (i : Int) + 1 by omega] at g1
      by_cases s : (0 : Int) ≤ μ.2 13 i
      · rw [if_pos s, if_pos ⟨by omega, by omega⟩, zm_in]
        simp only [Option.bind_some, zb_0]
        by_cases t : μ.2 12 i ≤ v ∧ v ≤ μ.2 13 i
        · rw [if_neg (by simp [t])]
          exact ⟨true, rfl, ⟨fun _ => ⟨i, by omega, by omega, Or.inr ⟨s, t⟩⟩, fun _ => rfl⟩⟩
        · rw [if_pos (by simp only [decide_eq_false_iff_not]; exact t), if_pos ⟨by omega, by omega⟩]
          refine ⟨b, g1, g2.trans ⟨fun ⟨j, a1, a2, a3⟩ => ⟨j, by omega, a2, a3⟩, fun ⟨j, a1, a2, a3⟩ => ?_⟩⟩
          by_cases e : j = i
          · subst e
            rcases a3 with a3 | a3
            · omega
            · exact absurd a3.2 t
          · exact ⟨j, by omega, a2, a3⟩
      · rw [if_neg s, if_pos ⟨by omega, by omega⟩, zm_inSet (hm i (by omega) (by omega))]
        simp only [Option.bind_some, zb_0]
        by_cases t : uS (μ.2 12 i) v = false
        · rw [if_pos t, if_pos ⟨by omega, by omega⟩]
          refine ⟨b, g1, g2.trans ⟨fun ⟨j, a1, a2, a3⟩ => ⟨j, by omega, a2, a3⟩, fun ⟨j, a1, a2, a3⟩ => ?_⟩⟩
          by_cases e : j = i
          · subst e
            rcases a3 with a3 | a3
            · rw [t] at a3; exact absurd a3.2 (by decide)
            · omega
          · exact ⟨j, by omega, a2, a3⟩
        · rw [if_neg t]
          exact ⟨true, rfl, ⟨fun _ => ⟨i, by omega, by omega, Or.inl ⟨by omega, by cases h : uS (μ.2 12 i) v <;> simp_all⟩⟩, fun _ => rfl⟩⟩
theorem zmem_e {N : Nat} {μ : z_S} {x v : Int} (hN : 300 ≤ N) (hx0 : 0 ≤ x) (hx : x < 1300) (ha : 0 ≤ μ.2 4 x.toNat) (hab : μ.2 4 x.toNat ≤ μ.2 5 x.toNat) (hb : μ.2 5 x.toNat ≤ 200) (hm : ∀ i : Nat, (i : Int) < μ.2 5 x.toNat → μ.2 13 i < 0 → uLt (μ.2 12 i)) :
    ∃ b : Bool, zMod_isMember N x v μ = some (zb b, μ) ∧ (b = true ↔ ∃ j : Nat, μ.2 4 x.toNat ≤ (j : Int) ∧ (j : Int) < μ.2 5 x.toNat ∧ pHas μ j v) := by
  rw [zMod_isMember_u, if_pos ⟨hx0, by omega⟩]
  obtain ⟨b, g1, g2⟩ := zmem_loop (N := N) (v := v) hx0 hx hb hm N (μ.2 4 x.toNat).toNat (by omega) (by omega)
  rw [show (((μ.2 4 x.toNat).toNat : Nat) : Int) = μ.2 4 x.toNat by omega] at g1
  exact ⟨b, g1, g2.trans ⟨fun ⟨j, a1, a2, a3⟩ => ⟨j, by omega, a2, a3⟩, fun ⟨j, a1, a2, a3⟩ => ⟨j, by omega, a2, a3⟩⟩⟩
/-- the same for the class, over a unit and its twin -/
theorem zcmem_loop {N : Nat} {σ μ : z_S} {x2 u t : Int} (h2 : x2 ≤ 200) (hm : ∀ i : Nat, (i : Int) < x2 → pMem σ μ i) : ∀ (n i : Nat), x2.toNat + 1 ≤ i + n → i ≤ x2.toNat →
    ∃ b : Bool, zMachine_hasMember_l23 N n x2 u t (i : Int) σ = some (zb b, σ) ∧ (b = true ↔ ∃ j : Nat, i ≤ j ∧ (j : Int) < x2 ∧ (pHas μ j u ∨ pHas μ j t)) := by
  intro n
  induction n with
  | zero => intro i h1 h2; omega
  | succ n ih =>
    intro i h1 h3
    rw [zMachine_hasMember_l23_s]
    by_cases q : x2 ≤ (i : Int)
    · rw [if_pos q]
      exact ⟨false, rfl, ⟨fun h => (by cases h), fun ⟨j, a, b, _⟩ => by omega⟩⟩
    · obtain ⟨m1, m2⟩ := hm i (by omega)
      obtain ⟨b, g1, g2⟩ := ih (i + 1) (by omega) (by omega)
      rw [show ((i + 1 : Nat) : Int) = (i : Int) + 1 by omega] at g1
      have go : ∀ (hno : ¬ (pHas μ i u ∨ pHas μ i t)), (b = true ↔ ∃ j : Nat, i ≤ j ∧ (j : Int) < x2 ∧ (pHas μ j u ∨ pHas μ j t)) := fun hno => g2.trans ⟨fun ⟨j, a1, a2, a3⟩ => ⟨j, by omega, a2, a3⟩, fun ⟨j, a1, a2, a3⟩ => by
        by_cases e : j = i
        · subst e; exact absurd a3 hno
        · exact ⟨j, by omega, a2, a3⟩⟩
      have yes : (pHas μ i u ∨ pHas μ i t) → (true = true ↔ ∃ j : Nat, i ≤ j ∧ (j : Int) < x2 ∧ (pHas μ j u ∨ pHas μ j t)) := fun h => ⟨fun _ => ⟨i, by omega, by omega, h⟩, fun _ => rfl⟩
      rw [if_neg q, zrr (by decide) (by omega) (by show (i : Int) < 200; omega)]
      simp only [Option.bind_some]
      rw [zrr (by decide) (by omega) (by show (i : Int) < 200; omega)]
      simp only [Option.bind_some, show (i : Int).toNat = i by omega]
      by_cases s : μ.2 13 i < 0
      · obtain ⟨l1, l2⟩ := m1 s
        have hno : ∀ v, pHas μ i v ↔ uS (μ.2 12 i) v = true := fun v => ⟨fun h => by rcases h with h | h; exact h.2; omega, fun h => Or.inl ⟨s, h⟩⟩
        have hl : 0 ≤ μ.2 12 i := by rcases l1 with h | h | h | h | h | h <;> omega
        rw [l2, if_neg (by omega), zc_inSet l1]
        simp only [Option.bind_some, zb_0]
        by_cases c1 : uS (μ.2 12 i) u = false
        · rw [if_pos c1, zc_inSet l1]
          simp only [Option.bind_some, zb_0]
          by_cases c2 : uS (μ.2 12 i) t = false
          · rw [if_pos c2, if_pos trivial, if_pos ⟨by omega, by omega⟩]
            exact ⟨b, g1, go (by rw [hno, hno, c1, c2]; simp)⟩
          · rw [if_neg c2, if_neg (by decide)]
            exact ⟨true, rfl, yes (Or.inr ((hno t).mpr (by cases h : uS (μ.2 12 i) t <;> simp_all)))⟩
        · rw [if_neg c1, if_neg (by decide)]
          exact ⟨true, rfl, yes (Or.inl ((hno u).mpr (by cases h : uS (μ.2 12 i) u <;> simp_all)))⟩
      · obtain ⟨l1, l2, l3, l4⟩ := m2 (by omega)
        have hno : ∀ v, pHas μ i v ↔ (μ.2 12 i ≤ v ∧ v ≤ μ.2 13 i) := fun v => ⟨fun h => by rcases h with h | h; omega; exact h.2, fun h => Or.inr ⟨by omega, h⟩⟩
        rw [l3, l4, if_pos (by omega)]
        by_cases c1 : μ.2 12 i ≤ u ∧ u ≤ μ.2 13 i
        · rw [if_neg (by omega), if_pos (by omega), if_neg (by decide)]
          exact ⟨true, rfl, yes (Or.inl ((hno u).mpr c1))⟩
        · by_cases c2 : μ.2 12 i ≤ t ∧ t ≤ μ.2 13 i
          · refine ⟨true, ?_, yes (Or.inr ((hno t).mpr c2))⟩
            by_cases d1 : u < μ.2 12 i
            · rw [if_pos d1, if_neg (by omega), if_neg (by omega), if_neg (by decide)]; rfl
            · rw [if_neg d1, if_neg (by omega), if_neg (by omega), if_neg (by omega), if_neg (by decide)]; rfl
          · refine ⟨b, ?_, go (by rw [hno, hno]; omega)⟩
            rw [← g1]
            by_cases d1 : u < μ.2 12 i
            · rw [if_pos d1]
              by_cases d2 : t < μ.2 12 i
              · rw [if_pos d2, if_pos trivial, if_pos ⟨by omega, by omega⟩]
              · rw [if_neg d2, if_pos (by omega), if_pos trivial, if_pos ⟨by omega, by omega⟩]
            · rw [if_neg d1, if_neg (by omega)]
              by_cases d2 : t < μ.2 12 i
              · rw [if_pos d2, if_pos trivial, if_pos ⟨by omega, by omega⟩]
              · rw [if_neg d2, if_pos (by omega), if_pos trivial, if_pos ⟨by omega, by omega⟩]
