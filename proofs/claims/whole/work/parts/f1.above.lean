/-! which of two numbers is greater: the class pads, the reference strips -/
def zW (u : Int → Int) : Int → Nat → Int
  | _, 0 => 0
  | s, L + 1 => (u s - 48) * 10 ^ L + zW u (s + 1) L
def zRt (u : Int → Int) (s e : Int) (k : Nat) : Int := if (k : Int) ≤ e - s then zW u (e - k) k else zW u s (e - s).toNat
theorem ten_pos (L : Nat) : (0 : Int) < 10 ^ L := Int.pow_pos (by decide)
theorem ten_mono {a b : Nat} (h : a ≤ b) : (10 : Int) ^ a ≤ 10 ^ b := by
  induction b with
  | zero => rw [show a = 0 by omega]; exact Int.le_refl _
  | succ b ih =>
    by_cases e : a = b + 1
    · rw [e]; exact Int.le_refl _
    · have := ih (by omega)
      have hb := ten_pos b
      rw [Int.pow_succ]; omega
theorem zW_bd {u : Int → Int} : ∀ (L : Nat) (s : Int), (∀ i, s ≤ i → i < s + L → 48 ≤ u i ∧ u i ≤ 57) → 0 ≤ zW u s L ∧ zW u s L < 10 ^ L := by
  intro L
  induction L with
  | zero => intro s _; exact ⟨Int.le_refl _, (by decide : (0 : Int) < 10 ^ 0)⟩
  | succ L ih =>
    intro s h
    obtain ⟨h1, h2⟩ := ih (s + 1) (fun i i0 i1 => h i (by omega) (by omega))
    have hd := h s (by omega) (by omega)
    have ht := ten_pos L
    show 0 ≤ (u s - 48) * 10 ^ L + zW u (s + 1) L ∧ (u s - 48) * 10 ^ L + zW u (s + 1) L < 10 ^ (L + 1)
    have a1 : 0 ≤ (u s - 48) * 10 ^ L := Int.mul_nonneg (by omega) (by omega)
    have a2 : (u s - 48) * 10 ^ L ≤ 9 * 10 ^ L := Int.mul_le_mul_of_nonneg_right (by omega) (by omega)
    rw [Int.pow_succ]
    omega
theorem zcmp {a b T r1 r2 : Int} (hT : 0 < T) (h1 : 0 ≤ r1 ∧ r1 < T) (h2 : 0 ≤ r2 ∧ r2 < T) : (a = b → ((b * T + r2 < a * T + r1) ↔ r2 < r1)) ∧ (a < b → ¬ (b * T + r2 < a * T + r1)) ∧ (b < a → b * T + r2 < a * T + r1) := by
  refine ⟨fun e => by subst e; omega, fun e => ?_, fun e => ?_⟩
  · have := Int.mul_le_mul_of_nonneg_right (show a + 1 ≤ b by omega) (Int.le_of_lt hT)
    rw [Int.add_mul] at this
    omega
  · have := Int.mul_le_mul_of_nonneg_right (show b + 1 ≤ a by omega) (Int.le_of_lt hT)
    rw [Int.add_mul] at this
    omega
theorem zRt_s {u : Int → Int} {s e : Int} (hse : s ≤ e) (k : Nat) : zRt u s e (k + 1) = (if s ≤ e - ((k : Int) + 1) then u (e - ((k : Int) + 1)) - 48 else 0) * 10 ^ k + zRt u s e k := by
  unfold zRt
  by_cases c : s ≤ e - ((k : Int) + 1)
  · rw [if_pos (by omega), if_pos c, if_pos (by omega)]
    show (u (e - ((k + 1 : Nat) : Int)) - 48) * 10 ^ k + zW u (e - ((k + 1 : Nat) : Int) + 1) k = _
    rw [show e - ((k + 1 : Nat) : Int) = e - ((k : Int) + 1) by omega, show e - ((k : Int) + 1) + 1 = e - (k : Int) by omega]
  · rw [if_neg (by omega), if_neg c, Int.zero_mul, Int.zero_add]
    by_cases c2 : (k : Int) ≤ e - s
    · rw [if_pos c2, show (e - s).toNat = k by omega, show e - (k : Int) = s by omega]
    · rw [if_neg c2]
theorem zRt_bd {u : Int → Int} {s e : Int} (hse : s ≤ e) (h : ∀ i, s ≤ i → i < e → 48 ≤ u i ∧ u i ≤ 57) (k : Nat) : 0 ≤ zRt u s e k ∧ zRt u s e k < 10 ^ k := by
  unfold zRt
  by_cases c : (k : Int) ≤ e - s
  · rw [if_pos c]; exact zW_bd k _ (fun i i0 i1 => h i (by omega) (by omega))
  · rw [if_neg c]
    obtain ⟨a, b⟩ := zW_bd (u := u) (e - s).toNat s (fun i i0 i1 => h i i0 (by omega))
    exact ⟨a, Int.lt_of_lt_of_le b (ten_mono (by omega))⟩
theorem zb_if {p : Prop} [Decidable p] {σ : z_S} : (if p then (if zB 0 then some ((0 : Int), σ) else none) else (if zB 1 then some (1, σ) else none)) = some (zb (decide (¬ p)), σ) := by
  by_cases c : p
  · rw [if_pos c, if_pos (Or.inl rfl)]; simp [c, zb]
  · rw [if_neg c, if_pos (Or.inr rfl)]; simp [c, zb]
section AB
variable {N : Nat} {σ μ : z_S}
theorem zab_c (hx : xL σ μ) {s e t f : Int} (h1 : 0 ≤ s ∧ s ≤ e ∧ e ≤ 200) (h2 : 0 ≤ t ∧ t ≤ f ∧ f ≤ 200) (hd1 : ∀ i, s ≤ i → i < e → 48 ≤ uA μ i ∧ uA μ i ≤ 57) (hd2 : ∀ i, t ≤ i → i < f → 48 ≤ uA μ i ∧ uA μ i ≤ 57) : ∀ (k n : Nat), k ≤ 200 → k + 1 ≤ n → zReader_isAbove_l12 N n s e t f (k : Int) σ = some (zb (decide (zRt (uA μ) t f k < zRt (uA μ) s e k)), σ) := by
  intro k
  induction k with
  | zero =>
    intro n _ hn
    obtain ⟨n, rfl⟩ : ∃ m, n = m + 1 := ⟨n - 1, by omega⟩
    rw [zReader_isAbove_l12_s, if_pos (by omega)]
    have a1 : zRt (uA μ) t f 0 = 0 := by unfold zRt; rw [if_pos (by omega)]; rfl
    have a2 : zRt (uA μ) s e 0 = 0 := by unfold zRt; rw [if_pos (by omega)]; rfl
    rw [a1, a2]; rfl
  | succ k ih =>
    intro n hk hn
    obtain ⟨n, rfl⟩ : ∃ m, n = m + 1 := ⟨n - 1, by omega⟩
    have hrec := ih n (by omega) (by omega)
    have b1 := zRt_bd h1.2.1 hd1 k
    have b2 := zRt_bd h2.2.1 hd2 k
    generalize hK : ((k + 1 : Nat) : Int) = K
    have hK2 : K + -1 = (k : Int) := by omega
    have hKe : (k : Int) + 1 = K := by omega
    rw [zReader_isAbove_l12_s, if_neg (by omega), if_pos (show zin (e - K) from ⟨by omega, by omega⟩), zRt_s h1.2.1, zRt_s h2.2.1, hKe]
    have i1 : zin (e - K) := ⟨by omega, by omega⟩
    have i2 : zin (f - K) := ⟨by omega, by omega⟩
    have i3 : zin (K + -1) := ⟨by omega, by omega⟩
    have key : ∀ x y : Int, (if x = y then zReader_isAbove_l12 N n s e t f (K + -1) σ else if x ≤ y then (if zB 0 then some ((0 : Int), σ) else none) else (if zB 1 then some (1, σ) else none)) = some (zb (decide ((y - 48) * 10 ^ k + zRt (uA μ) t f k < (x - 48) * 10 ^ k + zRt (uA μ) s e k)), σ) := fun x y => by
      obtain ⟨z1, z2, z3⟩ := zcmp (a := x - 48) (b := y - 48) (ten_pos k) b1 b2
      by_cases c : x = y
      · rw [if_pos c, hK2, hrec]
        congr 3
        exact decide_eq_decide.mpr (z1 (by omega)).symm
      · rw [if_neg c, zb_if]
        congr 3
        by_cases c2 : x ≤ y
        · rw [decide_eq_false (fun z => z c2), decide_eq_false (z2 (by omega))]
        · rw [decide_eq_true c2, decide_eq_true (z3 (by omega))]
    by_cases c1 : s ≤ e - K
    · rw [if_neg (by omega), if_pos i1, zua hx, if_pos c1]
      simp only [Option.bind_some]
      rw [if_pos i2]
      by_cases c2 : t ≤ f - K
      · rw [if_neg (by omega), if_pos i2, zua hx, if_pos c2]
        simp only [Option.bind_some]
        rw [if_pos i3]
        exact key _ _
      · rw [if_pos (by omega), if_neg c2, if_pos i3]
        exact key _ 48
    · rw [if_pos (by omega), if_pos i2, if_neg c1]
      by_cases c2 : t ≤ f - K
      · rw [if_neg (by omega), if_pos i2, zua hx, if_pos c2]
        simp only [Option.bind_some]
        rw [if_pos i3]
        exact key 48 _
      · rw [if_pos (by omega), if_neg c2, if_pos i3]
        have h48 : ((48 : Nat) = 48) = True := by simp
        simp only [h48, if_true]
        rw [hK2, hrec]
        congr 3
        exact decide_eq_decide.mpr (by omega)
theorem zab_l (hx : xL σ μ) : ∀ (L n : Nat) (f g e : Int), 0 ≤ f → 0 ≤ g → f + L + 1 = e → e ≤ μ.1 2 → g + L + 1 ≤ μ.1 2 → L + 1 ≤ n → (∀ i, f ≤ i → i < f + L + 1 → 48 ≤ uA μ i ∧ uA μ i ≤ 57) → (∀ i, g ≤ i → i < g + L + 1 → 48 ≤ uA μ i ∧ uA μ i ≤ 57) →
    zMod_isAbove_l89 N n e f g μ = some (zb (decide (zW (uA μ) g (L + 1) < zW (uA μ) f (L + 1))), μ) := by
  intro L
  induction L with
  | zero =>
    intro n f g e h0 h1 h2 h3 h4 hn hf hg
    obtain ⟨n, rfl⟩ : ∃ m, n = m + 1 := ⟨n - 1, by omega⟩
    have h200 := hx.2.2.1
    have e1 : uA μ f = μ.2 1 f.toNat := by unfold uA; rw [if_pos ⟨by omega, by omega⟩]
    have e2 : uA μ g = μ.2 1 g.toNat := by unfold uA; rw [if_pos ⟨by omega, by omega⟩]
    rw [zMod_isAbove_l89_s, if_pos (show zin (e - 1) from ⟨by omega, by omega⟩), if_pos (by omega), if_pos (show zIn f 200 from ⟨by omega, by omega⟩), if_pos (show zIn g 200 from ⟨by omega, by omega⟩), zb_if, ← e1, ← e2]
    congr 3
    have w : ∀ s, zW (uA μ) s (0 + 1) = uA μ s - 48 := fun s => by
      show (uA μ s - 48) * 10 ^ 0 + 0 = _
      rw [Int.pow_zero, Int.mul_one, Int.add_zero]
    exact decide_eq_decide.mpr (by rw [w, w]; omega)
  | succ L ih =>
    intro n f g e h0 h1 h2 h3 h4 hn hf hg
    obtain ⟨n, rfl⟩ : ∃ m, n = m + 1 := ⟨n - 1, by omega⟩
    have h200 := hx.2.2.1
    have e1 : uA μ f = μ.2 1 f.toNat := by unfold uA; rw [if_pos ⟨by omega, by omega⟩]
    have e2 : uA μ g = μ.2 1 g.toNat := by unfold uA; rw [if_pos ⟨by omega, by omega⟩]
    have b1 := zW_bd (u := uA μ) (L + 1) (f + 1) (fun i i0 i1 => hf i (by omega) (by omega))
    have b2 := zW_bd (u := uA μ) (L + 1) (g + 1) (fun i i0 i1 => hg i (by omega) (by omega))
    obtain ⟨z1, z2, z3⟩ := zcmp (a := uA μ f - 48) (b := uA μ g - 48) (ten_pos (L + 1)) b1 b2
    have j1 : zIn f 200 := ⟨by omega, by omega⟩
    have j2 : zIn g 200 := ⟨by omega, by omega⟩
    rw [zMod_isAbove_l89_s, if_pos (show zin (e - 1) from ⟨by omega, by omega⟩), if_neg (by omega), if_pos j1, if_pos j2, ← e1, ← e2]
    show _ = some (zb (decide ((uA μ g - 48) * 10 ^ (L + 1) + zW (uA μ) (g + 1) (L + 1) < (uA μ f - 48) * 10 ^ (L + 1) + zW (uA μ) (f + 1) (L + 1))), μ)
    by_cases c : uA μ f = uA μ g
    · rw [if_pos c, if_pos (show zin (f + 1) from ⟨by omega, by omega⟩), if_pos (show zin (g + 1) from ⟨by omega, by omega⟩), ih n (f + 1) (g + 1) e (by omega) (by omega) (by omega) h3 (by omega) (by omega) (fun i i0 i1 => hf i (by omega) (by omega)) (fun i i0 i1 => hg i (by omega) (by omega))]
      congr 3
      exact decide_eq_decide.mpr (z1 (by omega)).symm
    · rw [if_neg c, if_pos j1, if_pos j2, zb_if]
      congr 3
      by_cases c2 : uA μ f ≤ uA μ g
      · rw [decide_eq_false (fun z => z c2), decide_eq_false (z2 (by omega))]
      · rw [decide_eq_true c2, decide_eq_true (z3 (by omega))]
theorem zW_big {u : Int → Int} {s : Int} {L : Nat} (h : ∀ i, s ≤ i → i < s + L + 1 → 48 ≤ u i ∧ u i ≤ 57) (h0 : u s ≠ 48) : 10 ^ L ≤ zW u s (L + 1) := by
  have b := zW_bd (u := u) L (s + 1) (fun i i0 i1 => h i (by omega) (by omega))
  have hd := h s (by omega) (by omega)
  have := Int.mul_le_mul_of_nonneg_right (show 1 ≤ u s - 48 by omega) (Int.le_of_lt (ten_pos L))
  show 10 ^ L ≤ (u s - 48) * 10 ^ L + zW u (s + 1) L
  omega
theorem zab_g (hN : 300 ≤ N) (hx : xL σ μ) {f e : Int} {L : Nat} (h0 : 0 ≤ f) (h2 : f + L + 1 = e) (h3 : e ≤ μ.1 2) (hf : ∀ i, f ≤ i → i < f + L + 1 → 48 ≤ uA μ i ∧ uA μ i ≤ 57) (hs : L = 0 ∨ uA μ f ≠ 48) : ∀ (M n : Nat) (g q : Int), 0 ≤ g → g + M + 1 = q → q ≤ μ.1 2 → M + 1 ≤ n → (∀ i, g ≤ i → i < g + M + 1 → 48 ≤ uA μ i ∧ uA μ i ≤ 57) →
    zMod_isAbove_l32 N n e q f g μ = some (zb (decide (zW (uA μ) g (M + 1) < zW (uA μ) f (L + 1))), μ) := by
  have h200 := hx.2.2.1
  have fin : ∀ (M : Nat) (g q : Int), 0 ≤ g → g + M + 1 = q → q ≤ μ.1 2 → (∀ i, g ≤ i → i < g + M + 1 → 48 ≤ uA μ i ∧ uA μ i ≤ 57) → (M = 0 ∨ uA μ g ≠ 48) →
      (if zin (e - f) then if zin (q - g) then if e - f = q - g then zMod_isAbove_l89 N N e f g μ else (if zin (e - f) then if zin (q - g) then if e - f ≤ q - g then (if zB 0 then some ((0 : Int), μ) else none) else (if zB 1 then some (1, μ) else none) else none else none) else none else none) = some (zb (decide (zW (uA μ) g (M + 1) < zW (uA μ) f (L + 1))), μ) := by
    intro M g q g0 g1 g2 hg hsg
    have i1 : zin (e - f) := ⟨by omega, by omega⟩
    have i2 : zin (q - g) := ⟨by omega, by omega⟩
    rw [if_pos i1, if_pos i2]
    by_cases c : e - f = q - g
    · rw [if_pos c]
      have : M = L := by omega
      subst this
      exact zab_l hx M N f g e h0 g0 h2 h3 (by omega) (by omega) hf hg
    · rw [if_neg c, if_pos i1, if_pos i2, zb_if]
      congr 3
      have b1 := zW_bd (u := uA μ) (L + 1) f (fun i i0 i1 => hf i i0 (by omega))
      have b2 := zW_bd (u := uA μ) (M + 1) g (fun i i0 i1 => hg i i0 (by omega))
      by_cases c2 : e - f ≤ q - g
      · have hb := zW_big hg (by rcases hsg with z | z; omega; exact z)
        have := ten_mono (show L + 1 ≤ M by omega)
        rw [decide_eq_false (fun z => z c2), decide_eq_false (by omega)]
      · have hb := zW_big hf (by rcases hs with z | z; omega; exact z)
        have := ten_mono (show M + 1 ≤ L by omega)
        rw [decide_eq_true c2, decide_eq_true (by omega)]
  intro M
  induction M with
  | zero =>
    intro n g q g0 g1 g2 hn hg
    obtain ⟨n, rfl⟩ : ∃ m, n = m + 1 := ⟨n - 1, by omega⟩
    rw [zMod_isAbove_l32_s, if_pos (show zin (q - 1) from ⟨by omega, by omega⟩), if_pos (by omega)]
    exact fin 0 g q g0 g1 g2 hg (Or.inl rfl)
  | succ M ih =>
    intro n g q g0 g1 g2 hn hg
    obtain ⟨n, rfl⟩ : ∃ m, n = m + 1 := ⟨n - 1, by omega⟩
    have e2 : uA μ g = μ.2 1 g.toNat := by unfold uA; rw [if_pos ⟨by omega, by omega⟩]
    rw [zMod_isAbove_l32_s, if_pos (show zin (q - 1) from ⟨by omega, by omega⟩), if_neg (by omega), if_pos (show zIn g 200 from ⟨by omega, by omega⟩), ← e2]
    by_cases c : uA μ g = 48
    · rw [if_pos c, if_pos (show zin (g + 1) from ⟨by omega, by omega⟩), ih n (g + 1) q (by omega) (by omega) g2 (by omega) (fun i i0 i1 => hg i (by omega) (by omega))]
      have w : zW (uA μ) g (M + 1 + 1) = zW (uA μ) (g + 1) (M + 1) := by
        show (uA μ g - 48) * 10 ^ (M + 1) + zW (uA μ) (g + 1) (M + 1) = _
        rw [c, Int.sub_self, Int.zero_mul, Int.zero_add]
      rw [w]
    · rw [if_neg c]
      exact fin (M + 1) g q g0 g1 g2 hg (Or.inr c)
theorem zab_f (hN : 300 ≤ N) (hx : xL σ μ) {g q : Int} {M : Nat} (g0 : 0 ≤ g) (g1 : g + M + 1 = q) (g2 : q ≤ μ.1 2) (hg : ∀ i, g ≤ i → i < g + M + 1 → 48 ≤ uA μ i ∧ uA μ i ≤ 57) : ∀ (L n : Nat) (f e : Int), 0 ≤ f → f + L + 1 = e → e ≤ μ.1 2 → L + 1 ≤ n → (∀ i, f ≤ i → i < f + L + 1 → 48 ≤ uA μ i ∧ uA μ i ≤ 57) →
    zMod_isAbove_l6 N n e q f g μ = some (zb (decide (zW (uA μ) g (M + 1) < zW (uA μ) f (L + 1))), μ) := by
  have h200 := hx.2.2.1
  intro L
  induction L with
  | zero =>
    intro n f e h0 h1 h2 hn hf
    obtain ⟨n, rfl⟩ : ∃ m, n = m + 1 := ⟨n - 1, by omega⟩
    rw [zMod_isAbove_l6_s, if_pos (show zin (e - 1) from ⟨by omega, by omega⟩), if_pos (by omega)]
    exact zab_g hN hx h0 h1 h2 hf (Or.inl rfl) M N g q g0 g1 g2 (by omega) hg
  | succ L ih =>
    intro n f e h0 h1 h2 hn hf
    obtain ⟨n, rfl⟩ : ∃ m, n = m + 1 := ⟨n - 1, by omega⟩
    have e2 : uA μ f = μ.2 1 f.toNat := by unfold uA; rw [if_pos ⟨by omega, by omega⟩]
    rw [zMod_isAbove_l6_s, if_pos (show zin (e - 1) from ⟨by omega, by omega⟩), if_neg (by omega), if_pos (show zIn f 200 from ⟨by omega, by omega⟩), ← e2]
    by_cases c : uA μ f = 48
    · rw [if_pos c, if_pos (show zin (f + 1) from ⟨by omega, by omega⟩), ih n (f + 1) e (by omega) (by omega) h2 (by omega) (fun i i0 i1 => hf i (by omega) (by omega))]
      have w : zW (uA μ) f (L + 1 + 1) = zW (uA μ) (f + 1) (L + 1) := by
        show (uA μ f - 48) * 10 ^ (L + 1) + zW (uA μ) (f + 1) (L + 1) = _
        rw [c, Int.sub_self, Int.zero_mul, Int.zero_add]
      rw [w]
    · rw [if_neg c]
      exact zab_g hN hx h0 h1 h2 hf (Or.inr c) M N g q g0 g1 g2 (by omega) hg
/-- both say the same -/
theorem zab (hN : 300 ≤ N) (hx : xL σ μ) {s e t f : Int} (h1 : 0 ≤ s ∧ s < e ∧ e ≤ μ.1 2) (h2 : 0 ≤ t ∧ t < f ∧ f ≤ μ.1 2) (hd1 : ∀ i, s ≤ i → i < e → 48 ≤ uA μ i ∧ uA μ i ≤ 57) (hd2 : ∀ i, t ≤ i → i < f → 48 ≤ uA μ i ∧ uA μ i ≤ 57) :
    ∃ b : Bool, zReader_isAbove N s e t f σ = some (zb b, σ) ∧ zMod_isAbove N s e t f μ = some (zb b, μ) := by
  have h200 := hx.2.2.1
  refine ⟨decide (zW (uA μ) t (f - t).toNat < zW (uA μ) s (e - s).toNat), ?_, ?_⟩
  · rw [zReader_isAbove_u, if_pos (show zin (e - s) from ⟨by omega, by omega⟩), if_pos (show zin (f - t) from ⟨by omega, by omega⟩)]
    have h := zab_c (N := N) hx (s := s) (e := e) (t := t) (f := f) ⟨by omega, by omega, by omega⟩ ⟨by omega, by omega, by omega⟩ hd1 hd2 (if e - s < f - t then f - t else e - s).toNat N (by split <;> omega) (by split <;> omega)
    rw [show (((if e - s < f - t then f - t else e - s).toNat : Nat) : Int) = if e - s < f - t then f - t else e - s by split <;> omega] at h
    rw [h]
    have r1 : zRt (uA μ) t f (if e - s < f - t then f - t else e - s).toNat = zW (uA μ) t (f - t).toNat := by
      unfold zRt
      by_cases c : (((if e - s < f - t then f - t else e - s).toNat : Nat) : Int) ≤ f - t
      · have : (if e - s < f - t then f - t else e - s).toNat = (f - t).toNat := by split at c <;> split <;> omega
        rw [if_pos c, this, show f - (((f - t).toNat : Nat) : Int) = t by omega]
      · rw [if_neg c]
    have r2 : zRt (uA μ) s e (if e - s < f - t then f - t else e - s).toNat = zW (uA μ) s (e - s).toNat := by
      unfold zRt
      by_cases c : (((if e - s < f - t then f - t else e - s).toNat : Nat) : Int) ≤ e - s
      · have : (if e - s < f - t then f - t else e - s).toNat = (e - s).toNat := by split at c <;> split <;> omega
        rw [if_pos c, this, show e - (((e - s).toNat : Nat) : Int) = s by omega]
      · rw [if_neg c]
    rw [r1, r2]
  · rw [zMod_isAbove_u]
    have h := zab_f (N := N) (σ := σ) hN hx (g := t) (q := f) (M := (f - t).toNat - 1) h2.1 (by omega) h2.2.2 (fun i i0 i1 => hd2 i i0 (by omega)) ((e - s).toNat - 1) N s e h1.1 (by omega) h1.2.2 (by omega) (fun i i0 i1 => hd1 i i0 (by omega))
    rw [show (f - t).toNat - 1 + 1 = (f - t).toNat by omega, show (e - s).toNat - 1 + 1 = (e - s).toNat by omega] at h
    exact h
end AB
