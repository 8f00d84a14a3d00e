/-! the reference's pile -/
def ztp (L : Nat → Int) : Nat → Nat
  | 0 => 0
  | n + 1 => if L n = 1 then ztp L n else n + 1
def zci (L : Nat → Int) : Nat → Nat
  | 0 => 0
  | n + 1 => if L n = 1 then zci L n else zci L n + 1
theorem zci_tp (L : Nat → Int) (m : Nat) : (ztp L m = 0 ∧ zci L m = 0) ∨ ∃ i, i < m ∧ ztp L m = i + 1 ∧ L i ≠ 1 ∧ zci L m = zci L i + 1 ∧ ∀ j, i < j → j < m → L j = 1 := by
  induction m with
  | zero => exact Or.inl ⟨rfl, rfl⟩
  | succ m ih =>
    by_cases h : L m = 1
    · have e1 : ztp L (m + 1) = ztp L m := if_pos h
      have e2 : zci L (m + 1) = zci L m := if_pos h
      rw [e1, e2]
      rcases ih with ih | ⟨i, h1, h2, h3, h4, h5⟩
      · exact Or.inl ih
      · exact Or.inr ⟨i, by omega, h2, h3, h4, fun j g1 g2 => if e : j = m then e ▸ h else h5 j g1 (by omega)⟩
    · exact Or.inr ⟨m, by omega, if_neg h, h, if_neg h, fun j g1 g2 => by omega⟩
theorem zci_le (L : Nat → Int) (m : Nat) : zci L m ≤ m := by
  induction m with
  | zero => exact Nat.le_refl _
  | succ m ih =>
    show (if L m = 1 then zci L m else zci L m + 1) ≤ m + 1
    split <;> omega
theorem zci_mono (L : Nat → Int) {i m : Nat} (h : i ≤ m) : zci L i ≤ zci L m := by
  induction m with
  | zero => have : i = 0 := by omega
            rw [this]; exact Nat.le_refl _
  | succ m ih =>
    by_cases e : i = m + 1
    · rw [e]; exact Nat.le_refl _
    · have := ih (by omega)
      show zci L i ≤ (if L m = 1 then zci L m else zci L m + 1)
      split <;> omega
theorem zci_lt (L : Nat → Int) {i m : Nat} (h : i < m) (hi : L i ≠ 1) : zci L i < zci L m := by
  have h1 : zci L (i + 1) = zci L i + 1 := if_neg hi
  have h2 := zci_mono L (show i + 1 ≤ m from h)
  omega
theorem zci_eq {L M : Nat → Int} {m : Nat} (h : ∀ i, i < m → L i = M i) : zci L m = zci M m := by
  induction m with
  | zero => rfl
  | succ m ih =>
    show (if L m = 1 then zci L m else zci L m + 1) = (if M m = 1 then zci M m else zci M m + 1)
    rw [h m (by omega), ih (fun i hi => h i (by omega))]
theorem zpop_copy {N : Nat} {μ : z_S} {i : Nat} {r : Int} (hi : i < 16000) (k2 : Int → z_S → Option (Int × z_S)) : ∀ (n k : Nat) (τ : z_S), k ≤ 42 → 42 < k + n → τ.1 19 = i → τ.2 27 = μ.2 27 → (∀ q, q < k → τ.2 17 q = μ.2 27 (42 * i + q)) →
    ∃ υ, zMod_pop_l64 N k2 n r (k : Int) τ = k2 r υ ∧ zfr [] [17] τ υ ∧ ∀ q, q < 42 → υ.2 17 q = μ.2 27 (42 * i + q) := by
  intro n
  induction n with
  | zero => intro k τ h1 h2; omega
  | succ n ih =>
    intro k τ hk hn e1 e2 e3
    rw [zMod_pop_l64_s, e1]
    by_cases h : (42 : Int) ≤ k
    · rw [if_pos h]
      exact ⟨τ, rfl, zfr_rf, fun q hq => e3 q (by omega)⟩
    · have e4 : (42 * (i : Int) + (k : Int)).toNat = 42 * i + k := by omega
      rw [if_neg h, if_pos ⟨by omega, by omega⟩, if_pos ⟨by omega, by omega⟩, if_pos ⟨by omega, by omega⟩, if_pos ⟨by omega, by omega⟩, if_pos ⟨by omega, by omega⟩, e4, e2]
      obtain ⟨υ, g1, g2, g3⟩ := ih (k + 1) (zA τ 17 (k : Int).toNat (μ.2 27 (42 * i + k))) (by omega) (by omega) e1 (by rw [zA_2, if_neg (by decide)]; exact e2) (fun q hq => by
        rw [zA_2, if_pos rfl, zupd_e, show (k : Int).toNat = k by omega]
        by_cases e : q = k
        · rw [if_pos e, e]
        · rw [if_neg e]; exact e3 q (by omega))
      exact ⟨υ, g1, zfr_tr (zfr_A zfr_rf (by simp)) g2, g3⟩
theorem zpop_loop {N : Nat} {μ : z_S} (hN : 43 ≤ N) : ∀ (m n : Nat) (τ : z_S), m + 2 ≤ n → m ≤ 16000 → τ.1 19 = m → τ.2 24 = μ.2 24 → τ.2 25 = μ.2 25 → τ.2 26 = μ.2 26 → τ.2 27 = μ.2 27 → (∀ i, i < m → 0 ≤ μ.2 24 i) →
    ∃ υ, zMod_pop_l2 N n (-1) τ = some (if ztp (μ.2 26) m = 0 then -1 else μ.2 24 (ztp (μ.2 26) m - 1), υ) ∧ zfr [11, 19] [17] τ υ ∧ (υ.1 19 = ((ztp (μ.2 26) m - 1 : Nat) : Int)) ∧ (ztp (μ.2 26) m = 0 → υ.1 11 = τ.1 11) ∧
      (ztp (μ.2 26) m ≠ 0 → υ.1 11 = μ.2 25 (ztp (μ.2 26) m - 1) ∧ ∀ q, q < 42 → υ.2 17 q = μ.2 27 (42 * (ztp (μ.2 26) m - 1) + q)) := by
  intro m
  induction m with
  | zero =>
    intro n τ hn _ e1 _ _ _ _ _
    obtain ⟨n, rfl⟩ : ∃ k, n = k + 1 := ⟨n - 1, by omega⟩
    rw [zMod_pop_l2_s, if_neg (by omega), if_pos (by omega)]
    exact ⟨τ, rfl, zfr_rf, e1, fun _ => rfl, fun h => absurd rfl h⟩
  | succ m ih =>
    intro n τ hn hm e1 e2 e3 e4 e5 hr
    obtain ⟨n, rfl⟩ : ∃ k, n = k + 1 := ⟨n - 1, by omega⟩
    have em : (((m + 1 : Nat) : Int) - 1).toNat = m := by omega
    rw [zMod_pop_l2_s, e1, if_neg (by omega), if_neg (by omega), if_pos ⟨by omega, by omega⟩, if_pos ⟨by omega, by omega⟩, em, e4]
    by_cases h : μ.2 26 m = 1
    · have et : ztp (μ.2 26) (m + 1) = ztp (μ.2 26) m := if_pos h
      rw [if_pos h, et]
      obtain ⟨υ, g1, g2, g3, g4, g5⟩ := ih n (zF τ 19 (((m + 1 : Nat) : Int) - 1)) (by omega) (by omega) (by rw [zF_1, if_pos rfl]; omega) e2 e3 e4 e5 (fun i hi => hr i (by omega))
      exact ⟨υ, g1, zfr_tr (zfr_F zfr_rf (by simp)) g2, g3, g4, g5⟩
    · have et : ztp (μ.2 26) (m + 1) = m + 1 := if_neg h
      rw [if_neg h, et, if_pos (show zIn ((zF τ 19 (((m + 1 : Nat) : Int) - 1)).1 19) 16000 from ⟨by rw [zF_1, if_pos rfl]; omega, by rw [zF_1, if_pos rfl]; omega⟩), if_neg (show ¬ m + 1 = 0 by omega)]
      simp only [zF_1, zF_2, if_true, em, e2, e3]
      obtain ⟨υ, g1, g2, g3⟩ := zpop_copy (N := N) (μ := μ) (i := m) (r := μ.2 24 m) (by omega) (zMod_pop_l2 N n) N 0 (zF (zF τ 19 (((m + 1 : Nat) : Int) - 1)) 11 (μ.2 25 m)) (by omega) (by omega) (by simp only [zF_1, if_true, Nat.reduceEqDiff, if_false]; omega) e5 (fun q hq => by omega)
      rw [show ((0 : Nat) : Int) = 0 from rfl] at g1
      rw [g1]
      obtain ⟨n', rfl⟩ : ∃ k, n = k + 1 := ⟨n - 1, by omega⟩
      rw [zMod_pop_l2_s, if_pos (hr m (by omega))]
      refine ⟨υ, rfl, zfr_tr (zfr_F (zfr_F zfr_rf (by simp)) (by simp)) (zfr_up g2 (by simp) (by simp)), ?_, fun h => absurd h (by omega), fun _ => ⟨?_, g3⟩⟩
      · rw [g2.1 19 (by simp)]; simp only [zF_1, if_true, Nat.reduceEqDiff, if_false]; omega
      · rw [g2.1 11 (by simp)]; simp only [zF_1, if_true]; rfl
theorem zpop_e {N m : Nat} {μ : z_S} (hN : 16100 ≤ N) (hm : m ≤ 16000) (e : μ.1 19 = m) (hr : ∀ i, i < m → 0 ≤ μ.2 24 i) :
    ∃ υ, zMod_pop N μ = some (if ztp (μ.2 26) m = 0 then -1 else μ.2 24 (ztp (μ.2 26) m - 1), υ) ∧ zfr [11, 19] [17] μ υ ∧ (υ.1 19 = ((ztp (μ.2 26) m - 1 : Nat) : Int)) ∧ (ztp (μ.2 26) m = 0 → υ.1 11 = μ.1 11) ∧
      (ztp (μ.2 26) m ≠ 0 → υ.1 11 = μ.2 25 (ztp (μ.2 26) m - 1) ∧ ∀ q, q < 42 → υ.2 17 q = μ.2 27 (42 * (ztp (μ.2 26) m - 1) + q)) := by
  rw [zMod_pop_u]
  exact zpop_loop (by omega) m N μ (by omega) hm e rfl rfl rfl rfl hr
