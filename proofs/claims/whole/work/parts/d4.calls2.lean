section CB
variable {σ μ : z_S}
theorem J_put (h : zJ σ μ) (x : Int64) (n : Int) : ∃ N r σ' M v μ', zDesk_put N x n σ = some (r, σ') ∧ zMod_put M x n μ = some (v, μ') ∧ zAns r v (μ'.1 0) ∧ zJ σ' μ' := by
  obtain ⟨a1, a2, a3, a4, a5, a6, a7, a8, a9⟩ := id h
  have h20 : ((2 : Nat) ≤ 0) = False := by simp
  have h10 : ((1 : Nat) ≤ 0) = False := by simp
  have h00 : ((0 : Nat) ≤ 0) = True := by simp
  by_cases c1 : 1 ≤ n ∧ n ≤ 4
  · have hmi : zMod_in 10 n 1 4 μ = some (1, μ) := by rw [zm_in, decide_eq_true c1]; rfl
    have i1 : zin (σ.1 0 + n) := ⟨by omega, by omega⟩
    have i2 : zin (μ.1 1 + n) := ⟨by omega, by omega⟩
    have i3 : zin (n - 1) := ⟨by omega, by omega⟩
    by_cases c2 : σ.1 0 + n ≤ 600
    · obtain ⟨v, σ', μ', e1, e2, e3, e4⟩ := J_putl (N := 10) (x := x) 10 (n - 1) σ (zF μ 0 0) (by omega) (by omega) (by omega) (by omega) (zJ_t h) rfl
      refine ⟨10, .inl v, σ', 10, v, μ', ?_, ?_, ⟨e4, fun w e => by cases e; rfl⟩, e3⟩
      · rw [zDesk_put_u, if_neg (by omega), if_pos (by omega), if_pos i1, if_pos c2, if_pos i3, e1]
      · rw [zMod_put_u, hmi]
        simp only [Option.bind_some, Int.reduceEq, if_false, h00, if_true, if_pos i2, if_pos i3]
        rw [if_pos (by omega), e2]
    · refine ⟨10, .inr true, σ, 10, 0, zF μ 0 2, ?_, ?_, ⟨rfl, fun w e => by cases e⟩, zJ_t h⟩
      · rw [zDesk_put_u, if_neg (by omega), if_pos (by omega), if_pos i1, if_neg c2]
      · rw [zMod_put_u, hmi]
        simp only [Option.bind_some, Int.reduceEq, if_false, h20, if_pos i2]
        rw [if_neg (by omega)]
  · refine ⟨10, .inr false, σ, 10, 0, zF μ 0 1, ?_, ?_, ⟨rfl, fun w e => by cases e⟩, zJ_t h⟩
    · rw [zDesk_put_u]
      by_cases c2 : n < 1
      · rw [if_pos c2]
      · rw [if_neg c2, if_neg (by omega)]
    · have hmi : zMod_in 10 n 1 4 μ = some (0, μ) := by rw [zm_in, decide_eq_false c1]; rfl
      rw [zMod_put_u, hmi]
      simp only [Option.bind_some, if_true, h10, if_false]
theorem ztx_c {N : Nat} {c : Int} (hc : c ≤ 600) : ∀ (n : Nat) (k : Int) (τ : z_S), 0 ≤ k → k ≤ c → c < k + n → ∃ υ, zMachine_takeText_l2 N 0 n c k τ = some (0, zF υ 26 c) ∧ zfr [] [17] τ υ ∧ ∀ i : Nat, υ.2 17 i = if k ≤ (i : Int) ∧ (i : Int) < c then τ.2 0 i else τ.2 17 i := by
  intro n
  induction n with
  | zero => intro k τ h1 h2 h3; omega
  | succ n ih =>
    intro k τ h1 h2 h3
    rw [zMachine_takeText_l2_s]
    by_cases q : c ≤ k
    · rw [if_pos q]
      exact ⟨τ, rfl, zfr_rf, fun i => by rw [if_neg (by omega)]⟩
    · rw [if_neg q, zrr (by decide) h1 (by show k < (600 : Int); omega)]
      simp only [Option.bind_some]
      rw [zrw (by decide) h1 (by show k < (600 : Int); omega)]
      simp only [Option.bind_some]
      rw [if_pos (show zin (k + 1) from ⟨by omega, by omega⟩)]
      obtain ⟨υ, e1, e2, e3⟩ := ih (k + 1) (zA τ 17 k.toNat (τ.2 0 k.toNat)) (by omega) (by omega) (by omega)
      refine ⟨υ, e1, zfr_tr (zfr_A zfr_rf (by simp)) e2, fun i => ?_⟩
      rw [e3 i]
      show (if _ then τ.2 0 i else zupd (τ.2 17) k.toNat (τ.2 0 k.toNat) i) = _
      by_cases w : (i : Int) = k
      · rw [if_neg (by omega), if_pos (by omega), show i = k.toNat by omega, zupd_s]
      · rw [zupd_n (by omega)]
        by_cases w2 : k + 1 ≤ (i : Int) ∧ (i : Int) < c
        · rw [if_pos w2, if_pos (by omega)]
        · rw [if_neg w2, if_neg (by omega)]
theorem ztx_m {N : Nat} : ∀ (n : Nat) (k : Int) (τ : z_S), 0 ≤ k → k ≤ τ.1 7 → τ.1 7 ≤ 600 → τ.1 7 < k + n → ∃ υ, zMod_text_l20 N n k τ = some (τ.1 7, zF υ 1 0) ∧ zfr [] [2] τ υ ∧ ∀ i : Nat, υ.2 2 i = if k ≤ (i : Int) ∧ (i : Int) < τ.1 7 then τ.2 0 i else τ.2 2 i := by
  intro n
  induction n with
  | zero => intro k τ h1 h2 h3; omega
  | succ n ih =>
    intro k τ h1 h2 hc h3
    rw [zMod_text_l20_s]
    by_cases q : τ.1 7 ≤ k
    · rw [if_pos q]
      exact ⟨τ, rfl, zfr_rf, fun i => by rw [if_neg (by omega)]⟩
    · rw [if_neg q, if_pos (show zIn k 600 from ⟨by omega, by omega⟩), if_pos (show zin (k + 1) from ⟨by omega, by omega⟩)]
      obtain ⟨υ, e1, e2, e3⟩ := ih (k + 1) (zA τ 2 k.toNat (τ.2 0 k.toNat)) (by omega) (by show k + 1 ≤ τ.1 7; omega) hc (by show τ.1 7 < _; omega)
      refine ⟨υ, e1, zfr_tr (zfr_A zfr_rf (by simp)) e2, fun i => ?_⟩
      rw [e3 i]
      show (if k + 1 ≤ (i : Int) ∧ (i : Int) < τ.1 7 then τ.2 0 i else zupd (τ.2 2) k.toNat (τ.2 0 k.toNat) i) = _
      by_cases w : (i : Int) = k
      · rw [if_neg (by omega), if_pos (by omega), show i = k.toNat by omega, zupd_s]
      · rw [zupd_n (by omega)]
        by_cases w2 : k + 1 ≤ (i : Int) ∧ (i : Int) < τ.1 7
        · rw [if_pos w2, if_pos (by omega)]
        · rw [if_neg w2, if_neg (by omega)]
theorem J_text (h : zJ σ μ) : ∃ N v σ' M μ', zDesk_text N σ = some (v, σ') ∧ zMod_text M μ = some (v, μ') ∧ zJ σ' μ' := by
  obtain ⟨a1, a2, a3, a4, a5, a6, a7, a8, a9⟩ := id h
  obtain ⟨υ, e1, e2, e3⟩ := ztx_c (N := 1000) (c := σ.1 0) a1.2.2.1 1000 0 (zF (zF σ 0 0) 3 0) (by omega) a1.2.1 (by omega)
  obtain ⟨ν, f1, f2, f3⟩ := ztx_m (N := 1000) 1000 0 (zF (zF (zF μ 0 0) 15 0) 7 (μ.1 1)) (by omega) (by show 0 ≤ μ.1 1; omega) (by show μ.1 1 ≤ 600; omega) (by show μ.1 1 < _; omega)
  refine ⟨1000, σ.1 0, zF υ 26 (σ.1 0), 1000, zF ν 1 0, ?_, ?_, ?_⟩
  · rw [zDesk_text_u, zMachine_takeText_u, e1]; rfl
  · rw [zMod_text_u, f1, a1.1]; rfl
  · have hc : fC σ σ := zfr_rf
    refine ⟨⟨e2.1 0 (by simp), ?_, ?_, ?_⟩, ?_, ⟨?_, ?_⟩, ⟨?_, ?_⟩, ⟨?_, ?_, ?_, ?_⟩, ?_, ?_, ?_, ?_⟩
    · show 0 ≤ υ.1 0; rw [show υ.1 0 = 0 from e2.1 0 (by simp)]; decide
    · show υ.1 0 ≤ 600; rw [show υ.1 0 = 0 from e2.1 0 (by simp)]; decide
    · intro i
      show υ.2 0 i = ν.2 0 i ∧ 0 ≤ ν.2 0 i ∧ ν.2 0 i ≤ 65535
      rw [show υ.2 0 = σ.2 0 from e2.2 0 (by simp), show ν.2 0 = μ.2 0 from f2.2 0 (by simp)]
      exact a1.2.2.2 i
    · show υ.1 1 = ν.1 6; rw [show υ.1 1 = σ.1 1 from e2.1 1 (by simp), show ν.1 6 = μ.1 6 from f2.1 6 (by simp)]; exact a2
    · show υ.1 2 = ν.1 5; rw [show υ.1 2 = σ.1 2 from e2.1 2 (by simp), show ν.1 5 = μ.1 5 from f2.1 5 (by simp)]; exact a3.1
    · show zB (υ.1 2); rw [show υ.1 2 = σ.1 2 from e2.1 2 (by simp)]; exact a3.2
    · show υ.1 3 = ν.1 15; rw [show υ.1 3 = 0 from e2.1 3 (by simp), show ν.1 15 = 0 from f2.1 15 (by simp)]
    · show zB (υ.1 3); rw [show υ.1 3 = 0 from e2.1 3 (by simp)]; exact Or.inl rfl
    · show σ.1 0 = ν.1 7; rw [show ν.1 7 = μ.1 1 from f2.1 7 (by simp)]; exact a1.1
    · exact a1.2.1
    · exact a1.2.2.1
    · intro i
      show υ.2 17 i = ν.2 2 i ∧ 0 ≤ ν.2 2 i ∧ ν.2 2 i ≤ 65535
      have g1 : υ.2 17 i = if (0 : Int) ≤ (i : Int) ∧ (i : Int) < σ.1 0 then σ.2 0 i else σ.2 17 i := e3 i
      have g2 : ν.2 2 i = if (0 : Int) ≤ (i : Int) ∧ (i : Int) < μ.1 1 then μ.2 0 i else μ.2 2 i := f3 i
      rw [g1, g2, a1.1]
      split
      · exact a1.2.2.2 i
      · exact a5.2.2.2 i
    · show υ.1 27 = ν.1 16; rw [show υ.1 27 = σ.1 27 from e2.1 27 (by simp), show ν.1 16 = μ.1 16 from f2.1 16 (by simp)]; exact a6
    · intro i hi
      show -1 ≤ υ.2 18 i ∧ υ.2 18 i ≤ 60000
      rw [show υ.2 18 = σ.2 18 from e2.2 18 (by simp)]; exact a7 i hi
    · intro e
      change υ.1 2 = 1 at e
      rw [show υ.1 2 = σ.1 2 from e2.1 2 (by simp)] at e
      exact pProg_mv (cutC_fr (zfr_F (zfr_tr (zfr_F (zfr_F (ks := [0, 3, 26]) (js := [17]) zfr_rf (by simp)) (by simp)) (zfr_up e2 (by simp) (by simp))) (by simp)) (by simp) (by simp)) (cutM_fr (zfr_F (zfr_tr (zfr_F (zfr_F (zfr_F (ks := [0, 15, 7, 1]) (js := [2]) zfr_rf (by simp)) (by simp)) (by simp)) (zfr_up f2 (by simp) (by simp))) (by simp)) (by simp) (by simp)) (a8 e)
    · intro e
      change υ.1 3 = 1 at e
      rw [show υ.1 3 = 0 from e2.1 3 (by simp)] at e
      exact absurd e (by decide)
/-- what is looked at before a try -/
theorem zbeg {N M : Nat} (h : zJ σ μ) (a b : Int) :
    (zDesk_checkTry N a b σ = some (.inr false, σ) ∧ zMod_begins M a b μ = some (0, zF μ 0 1)) ∨ (zDesk_checkTry N a b σ = some (.inr true, σ) ∧ zMod_begins M a b μ = some (0, zF μ 0 2)) ∨
    (zDesk_checkTry N a b σ = some (.inl 0, σ) ∧ zMod_begins M a b μ = some (1, zF (zF (zF (zF μ 0 0) 15 0) 16 0) 17 b) ∧ (0 ≤ a ∧ a ≤ σ.1 26) ∧ (1 ≤ b ∧ b ≤ 10000) ∧ σ.1 2 = 1) := by
  obtain ⟨a1, a2, a3, a4, a5, a6, a7, a8, a9⟩ := id h
  have h20 : ((2 : Nat) ≤ 0) = False := by simp
  have h10 : ((1 : Nat) ≤ 0) = False := by simp
  have h00 : ((0 : Nat) ≤ 0) = True := by simp
  by_cases c1 : 0 ≤ a ∧ a ≤ μ.1 7
  · have m1 : zMod_in M a 0 (μ.1 7) μ = some (1, μ) := by rw [zm_in, decide_eq_true c1]; rfl
    by_cases c2 : 1 ≤ b ∧ b ≤ 10000
    · have m2 : zMod_in M b 1 10000 μ = some (1, μ) := by rw [zm_in, decide_eq_true c2]; rfl
      by_cases c3 : σ.1 2 = 0
      · right; left
        constructor
        · rw [zDesk_checkTry_u, if_neg (by omega), if_pos (by have := a5.1; omega), if_neg (by omega), if_pos (by omega), if_pos c3]
        · rw [zMod_begins_u, m1]
          simp only [Option.bind_some, Int.reduceEq, if_false, m2, h20]
          rw [if_pos (by rw [← a3.1]; exact c3)]
      · right; right
        refine ⟨?_, ?_, ⟨c1.1, by have := a5.1; omega⟩, c2, by rcases a3.2 with e | e; exact absurd e c3; exact e⟩
        · rw [zDesk_checkTry_u, if_neg (by omega), if_pos (by have := a5.1; omega), if_neg (by omega), if_pos (by omega), if_neg c3]
        · rw [zMod_begins_u, m1]
          simp only [Option.bind_some, Int.reduceEq, if_false, m2, h00, if_true]
          rw [if_neg (by rw [← a3.1]; exact c3)]
    · left
      have m2 : zMod_in M b 1 10000 μ = some (0, μ) := by rw [zm_in, decide_eq_false c2]; rfl
      constructor
      · rw [zDesk_checkTry_u, if_neg (by omega), if_pos (by have := a5.1; omega)]
        by_cases c3 : b < 1
        · rw [if_pos c3]
        · rw [if_neg c3, if_neg (by omega)]
      · rw [zMod_begins_u, m1]
        simp only [Option.bind_some, Int.reduceEq, if_false, m2, h10, if_true]
  · left
    have m1 : zMod_in M a 0 (μ.1 7) μ = some (0, μ) := by rw [zm_in, decide_eq_false c1]; rfl
    constructor
    · rw [zDesk_checkTry_u]
      by_cases c3 : a < 0
      · rw [if_pos c3]
      · rw [if_neg c3, if_neg (by have := a5.1; omega)]
    · rw [zMod_begins_u, m1]
      simp only [Option.bind_some, if_true, h10, if_false]
/-- while places are tried -/
def zK (σ μ : z_S) : Prop := zJ (zF σ 3 0) μ ∧ σ.1 2 = 1 ∧ σ.1 25 = μ.1 17 ∧ μ.1 17 ≤ 10000 ∧ 0 ≤ μ.1 16 ∧ μ.1 16 ≤ μ.1 17 ∧ μ.1 0 = 0
theorem zK_0 (h : zJ σ μ) {b : Int} (hb : 1 ≤ b ∧ b ≤ 10000) (h2 : σ.1 2 = 1) : zK (zF (zF σ 25 b) 27 0) (zF (zF (zF (zF μ 0 0) 15 0) 16 0) 17 b) := by
  obtain ⟨a1, a2, a3, a4, a5, a6, a7, a8, a9⟩ := id h
  refine ⟨⟨a1, a2, a3, ⟨rfl, Or.inl rfl⟩, a5, rfl, a7, fun e => pProg_mv (cutC_fr (zfr_F (zfr_F (zfr_F (ks := [3, 25, 27]) (js := []) zfr_rf (by simp)) (by simp)) (by simp)) (by simp) (by simp)) (cutM_fr (zfr_F (zfr_F (zfr_F (zfr_F (ks := [0, 15, 16, 17]) (js := []) zfr_rf (by simp)) (by simp)) (by simp)) (by simp)) (by simp) (by simp)) (a8 e), fun e => absurd (show (0 : Int) = 1 from e) (by decide)⟩, h2, rfl, hb.2, (by decide : (0 : Int) ≤ 0), ?_, rfl⟩
  show 0 ≤ b; omega
theorem zK_try {N : Nat} (hN : 1000000000000 ≤ N) (h : zK σ μ) {w : Int} (hw0 : 0 ≤ w) (hw1 : w ≤ σ.1 26) :
    ∃ v σ' μ', zMachine_tryAt N w σ = some (v, σ') ∧ zMod_tryAt N w μ = some (v, μ') ∧ (v = 0 ∨ v = 1 ∨ v = 2) ∧ σ'.1 26 = σ.1 26 ∧ μ'.1 7 = μ.1 7 ∧ zK σ' μ' ∧ (v = 1 → zJ (zF σ' 3 1) (zF μ' 15 1)) := by
  obtain ⟨⟨a1, a2, a3, a4, a5, a6, a7, a8, a9⟩, k1, k2, k3, k4, k5, k6⟩ := h
  have hP : pProg σ μ := pProg_mv (cutC_fr (zfr_F (ks := [3]) (js := []) zfr_rf (by simp)) (by simp) (by simp)).symm rfl (a8 k1)
  have h5 : σ.1 26 = μ.1 7 := a5.1
  obtain ⟨v, σ', μ', e1, e2, e3, e4, e5, e6, e7, e8, e9⟩ := ztry hN hP a5 a7 k2 k3 a6 k4 k5 hw0 (by omega)
  have hJ : ∀ x : Int, zB x → (x = 1 → v = 1) → zJ (zF σ' 3 x) (zF μ' 15 x) := by
    intro x hx hv
    refine ⟨⟨?_, ?_, ?_, ?_⟩, ?_, ⟨?_, ?_⟩, ⟨rfl, hx⟩, ⟨?_, ?_, ?_, ?_⟩, e5, e6, ?_, ?_⟩
    · show σ'.1 0 = μ'.1 1; rw [e3.1 0 (by simp), e4.1 1 (by simp)]; exact a1.1
    · show 0 ≤ σ'.1 0; rw [e3.1 0 (by simp)]; exact a1.2.1
    · show σ'.1 0 ≤ 600; rw [e3.1 0 (by simp)]; exact a1.2.2.1
    · intro i
      show σ'.2 0 i = μ'.2 0 i ∧ 0 ≤ μ'.2 0 i ∧ μ'.2 0 i ≤ 65535
      rw [e3.2 0 (by simp), e4.2 0 (by simp)]; exact a1.2.2.2 i
    · show σ'.1 1 = μ'.1 6; rw [e3.1 1 (by simp), e4.1 6 (by simp)]; exact a2
    · show σ'.1 2 = μ'.1 5; rw [e3.1 2 (by simp), e4.1 5 (by simp)]; exact a3.1
    · show zB (σ'.1 2); rw [e3.1 2 (by simp)]; exact a3.2
    · show σ'.1 26 = μ'.1 7; rw [e3.1 26 (by simp), e4.1 7 (by simp)]; exact h5
    · show 0 ≤ σ'.1 26; rw [e3.1 26 (by simp)]; exact a5.2.1
    · show σ'.1 26 ≤ 600; rw [e3.1 26 (by simp)]; exact a5.2.2.1
    · intro i
      show σ'.2 17 i = μ'.2 2 i ∧ 0 ≤ μ'.2 2 i ∧ μ'.2 2 i ≤ 65535
      rw [e3.2 17 (by simp), e4.2 2 (by simp)]; exact a5.2.2.2 i
    · intro _
      exact pProg_mv (cutC_fr (zfr_F (zfr_up e3 (ks' := [22, 23, 24, 27, 3]) (js' := [18, 19, 20, 21, 22, 23, 24]) (by simp) (by simp)) (by simp)) (by simp) (by simp)) (cutM_fr (zfr_F (zfr_up e4 (ks' := [11, 16, 18, 19, 15]) (js' := [17, 18, 19, 20, 21, 22, 23, 24, 25, 26, 27]) (by simp) (by simp)) (by simp)) (by simp) (by simp)) hP
    · intro e
      refine ⟨?_, e9 (hv e)⟩
      show σ'.1 2 = 1
      rw [e3.1 2 (by simp)]; exact k1
  have hz := hJ 0 (Or.inl rfl) (fun e => absurd e (by decide))
  have h15 : μ.1 15 = 0 := a4.1.symm
  refine ⟨v, σ', μ', e1, e2, e7, e3.1 26 (by simp), e4.1 7 (by simp), ⟨?_, by rw [e3.1 2 (by simp)]; exact k1, by rw [e3.1 25 (by simp), e4.1 17 (by simp)]; exact k2, by rw [e4.1 17 (by simp)]; exact k3, e8.1, e8.2, by rw [e4.1 0 (by simp)]; exact k6⟩, fun e => hJ 1 (Or.inr rfl) (fun _ => e)⟩
  rw [zF_i (σ := μ') (k := 15) (v := 0) (by rw [e4.1 15 (by simp)]; exact h15)] at hz
  exact hz
theorem zfin {N M : Nat} {v : Int} (h : zK σ μ) (hv : v = 1 → zJ (zF σ 3 1) (zF μ 15 1)) :
    ∃ σ' μ', zDesk_settled N v σ = some (v, σ') ∧ (if v = 1 then (if zB 1 then some (v, zF μ 15 1) else none) else (if zB 0 then some (v, zF μ 15 0) else none)) = some (v, μ') ∧ zJ σ' μ' ∧ μ'.1 0 = 0 := by
  by_cases e : v = 1
  · refine ⟨zF σ 3 1, zF μ 15 1, ?_, ?_, hv e, h.2.2.2.2.2.2⟩
    · rw [zDesk_settled_u, if_pos e, if_pos (Or.inr rfl)]
    · rw [if_pos e, if_pos (Or.inr rfl)]
  · refine ⟨zF σ 3 0, zF μ 15 0, ?_, ?_, ?_, h.2.2.2.2.2.2⟩
    · rw [zDesk_settled_u, if_neg e, if_pos (Or.inl rfl)]
    · rw [if_neg e, if_pos (Or.inl rfl)]
    · rw [zF_i (σ := μ) (k := 15) (v := 0) h.1.2.2.2.1.1.symm]
      exact h.1
theorem J_match (h : zJ σ μ) (a b : Int) : ∃ N r σ' M v μ', zDesk_match N a b σ = some (r, σ') ∧ zMod_match M a b μ = some (v, μ') ∧ zAns r v (μ'.1 0) ∧ zJ σ' μ' := by
  rcases zbeg (N := 1000000000000) (M := 1000000000000) h a b with ⟨e1, e2⟩ | ⟨e1, e2⟩ | ⟨e1, e2, e3, e4, e5⟩
  · refine ⟨1000000000000, .inr false, σ, 1000000000000, 0, zF μ 0 1, ?_, ?_, ⟨rfl, fun w e => by cases e⟩, zJ_t h⟩
    · rw [zDesk_match_u, e1]; rfl
    · rw [zMod_match_u, e2]; rfl
  · refine ⟨1000000000000, .inr true, σ, 1000000000000, 0, zF μ 0 2, ?_, ?_, ⟨rfl, fun w e => by cases e⟩, zJ_t h⟩
    · rw [zDesk_match_u, e1]; rfl
    · rw [zMod_match_u, e2]; rfl
  · obtain ⟨v, σ', μ', f1, f2, f3, f4, f5, f6, f7⟩ := zK_try (N := 1000000000000) (Nat.le_refl _) (zK_0 h e4 e5) e3.1 e3.2
    obtain ⟨σ2, μ2, g1, g2, g3, g4⟩ := zfin (N := 1000000000000) (M := 0) f6 f7
    refine ⟨1000000000000, .inl v, σ2, 1000000000000, v, μ2, ?_, ?_, ⟨g4, fun w e => by cases e; rfl⟩, g3⟩
    · rw [zDesk_match_u, e1]
      show ((zMachine_refuel 1000000000000 b σ).bind fun q11 => (zMachine_tryAt 1000000000000 a q11.2).bind fun q20 => (zDesk_settled 1000000000000 q20.1 q20.2).bind fun q23 => some (Sum.inl q23.1, q23.2)) = _
      rw [zMachine_refuel_u]
      simp only [Option.bind_some]
      rw [f1]
      simp only [Option.bind_some]
      rw [g1]
      rfl
    · rw [zMod_match_u, e2]
      simp only [Option.bind_some, Int.reduceEq, if_false]
      rw [f2]
      simp only [Option.bind_some]
      exact g2
theorem J_findl {N : Nat} (hN : 1000000000000 ≤ N) : ∀ (n : Nat) (v w : Int) (σ μ : z_S), 0 ≤ w → σ.1 26 + 2 ≤ w + n → 1 ≤ n → w ≤ 700 → zK σ μ → (v = 0 ∨ v = 1 ∨ v = 2) → (v = 1 → zJ (zF σ 3 1) (zF μ 15 1)) →
    ∃ v' σ' μ', zDesk_find_l19 N n v w σ = some (.inl v', σ') ∧ zMod_find_l16 N n v w μ = some (v', μ') ∧ zJ σ' μ' ∧ μ'.1 0 = 0 := by
  intro n
  induction n with
  | zero => intro v w σ μ _ _ h; omega
  | succ n ih =>
    intro v w σ μ h0 h1 _ h3 hK hv hv1
    have h5 : σ.1 26 = μ.1 7 := hK.1.2.2.2.2.1.1
    have h6 : σ.1 26 ≤ 600 := hK.1.2.2.2.2.1.2.2.1
    obtain ⟨σ2, μ2, g1, g2, g3, g4⟩ := zfin (N := N) (M := 0) hK hv1
    rw [zDesk_find_l19_s, zMod_find_l16_s]
    by_cases c1 : σ.1 26 < w
    · refine ⟨v, σ2, μ2, ?_, ?_, g3, g4⟩
      · rw [if_pos c1, g1]; rfl
      · rw [if_pos (by omega)]; exact g2
    · by_cases c2 : v = 0
      · obtain ⟨v', σ', μ', f1, f2, f3, f4, f5, f6, f7⟩ := zK_try hN hK h0 (by omega)
        obtain ⟨v2, σ3, μ3, d1, d2, d3, d4⟩ := ih v' (w + 1) σ' μ' (by omega) (by rw [f4]; omega) (by omega) (by omega) f6 f3 f7
        refine ⟨v2, σ3, μ3, ?_, ?_, d3, d4⟩
        · rw [if_neg c1, if_pos c2, f1]
          simp only [Option.bind_some]
          rw [if_pos (show zin (w + 1) from ⟨by omega, by omega⟩), d1]
        · rw [if_neg (by omega), if_pos c2, f2]
          simp only [Option.bind_some]
          rw [if_pos (show zin (w + 1) from ⟨by omega, by omega⟩), d2]
      · refine ⟨v, σ2, μ2, ?_, ?_, g3, g4⟩
        · rw [if_neg c1, if_neg c2, g1]; rfl
        · rw [if_neg (by omega), if_neg c2]; exact g2
theorem J_find (h : zJ σ μ) (a b : Int) : ∃ N r σ' M v μ', zDesk_find N a b σ = some (r, σ') ∧ zMod_find M a b μ = some (v, μ') ∧ zAns r v (μ'.1 0) ∧ zJ σ' μ' := by
  rcases zbeg (N := 1000000000000) (M := 1000000000000) h a b with ⟨e1, e2⟩ | ⟨e1, e2⟩ | ⟨e1, e2, e3, e4, e5⟩
  · refine ⟨1000000000000, .inr false, σ, 1000000000000, 0, zF μ 0 1, ?_, ?_, ⟨rfl, fun w e => by cases e⟩, zJ_t h⟩
    · rw [zDesk_find_u, e1]; rfl
    · rw [zMod_find_u, e2]; rfl
  · refine ⟨1000000000000, .inr true, σ, 1000000000000, 0, zF μ 0 2, ?_, ?_, ⟨rfl, fun w e => by cases e⟩, zJ_t h⟩
    · rw [zDesk_find_u, e1]; rfl
    · rw [zMod_find_u, e2]; rfl
  · have h26 : σ.1 26 ≤ 600 := h.2.2.2.2.1.2.2.1
    obtain ⟨v', σ', μ', f1, f2, f3, f4⟩ := J_findl (N := 1000000000000) (Nat.le_refl _) 1000000000000 0 a _ _ e3.1 (by show σ.1 26 + 2 ≤ _; omega) (by omega) (by omega) (zK_0 h e4 e5) (Or.inl rfl) (fun e => absurd e (by decide))
    refine ⟨1000000000000, .inl v', σ', 1000000000000, v', μ', ?_, ?_, ⟨f4, fun w e => by cases e; rfl⟩, f3⟩
    · rw [zDesk_find_u, e1]
      show ((zMachine_refuel 1000000000000 b σ).bind fun q11 => zDesk_find_l19 1000000000000 1000000000000 0 a q11.2) = _
      rw [zMachine_refuel_u]
      simp only [Option.bind_some]
      exact f1
    · rw [zMod_find_u, e2]
      simp only [Option.bind_some, Int.reduceEq, if_false]
      exact f2
end CB
