/-! THE UNITS OF A PATTERN, read by both -/
def uA (μ : z_S) (i : Int) : Int := if 0 ≤ i ∧ i < μ.1 2 then μ.2 1 i.toNat else -1
/-- both have the same units before them -/
def xL (σ μ : z_S) : Prop := σ.1 11 = μ.1 2 ∧ 0 ≤ μ.1 2 ∧ μ.1 2 ≤ 200 ∧ ∀ i : Nat, (i : Int) < μ.1 2 → σ.2 0 i = μ.2 1 i ∧ 0 ≤ μ.2 1 i ∧ μ.2 1 i ≤ 65535
section LX
variable {N : Nat} {σ μ σ' μ' : z_S}
theorem xL_mv (h : xL σ μ) (h1 : σ'.1 11 = σ.1 11) (h2 : σ'.2 0 = σ.2 0) (h3 : μ'.1 2 = μ.1 2) (h4 : μ'.2 1 = μ.2 1) : xL σ' μ' := by
  unfold xL at h ⊢
  rw [h1, h2, h3, h4]; exact h
theorem uA_mv (h3 : μ'.1 2 = μ.1 2) (h4 : μ'.2 1 = μ.2 1) : uA μ' = uA μ := by
  funext i; unfold uA; rw [h3, h4]
theorem uA_bd (h : xL σ μ) (i : Int) : -1 ≤ uA μ i ∧ uA μ i ≤ 65535 ∧ (0 ≤ uA μ i ↔ 0 ≤ i ∧ i < μ.1 2) := by
  unfold uA
  by_cases c : 0 ≤ i ∧ i < μ.1 2
  · have := h.2.2.2 i.toNat (by omega)
    rw [if_pos c]; exact ⟨by omega, by omega, fun _ => c, fun _ => this.2.1⟩
  · rw [if_neg c]; exact ⟨by omega, by omega, fun z => by omega, fun z => absurd z c⟩
theorem zua (h : xL σ μ) (i : Int) : zReader_unitAt N i σ = some (uA μ i, σ) := by
  obtain ⟨h1, h2, h3, h4⟩ := h
  rw [zReader_unitAt_u]
  unfold uA
  by_cases c1 : i < 0
  · rw [if_pos c1, if_neg (by omega)]
  · by_cases c2 : μ.1 2 ≤ i
    · rw [if_neg c1, if_pos (by omega), if_neg (by omega)]
    · rw [if_neg c1, if_neg (by omega), if_neg (by omega), if_pos (show zIn i 600 from ⟨by omega, by omega⟩), if_pos ⟨by omega, by omega⟩, (h4 i.toNat (by omega)).1]
theorem zse (h : xL σ μ) (k : Int) (h0 : 0 ≤ μ.1 11 + k) (h1 : μ.1 11 + k < 1000) : zMod_see N k μ = some (uA μ (μ.1 11 + k), μ) := by
  obtain ⟨-, -, h3, -⟩ := h
  rw [zMod_see_u, if_pos (show zin (μ.1 11 + k) from ⟨by omega, by omega⟩)]
  unfold uA
  by_cases c2 : μ.1 2 ≤ μ.1 11 + k
  · rw [if_pos c2, if_neg (by omega)]
  · rw [if_neg c2, if_pos (show zin (μ.1 11 + k) from ⟨by omega, by omega⟩), if_pos (show zIn (μ.1 11 + k) 200 from ⟨by omega, by omega⟩), if_pos ⟨by omega, by omega⟩]
theorem zfa (h : μ.1 12 < 0) {p : Int} : zMod_fail N p μ = some (0, zF μ 12 p) := by rw [zMod_fail_u, if_neg (by omega)]
theorem zfb (h : 0 ≤ μ.1 12) {p : Int} : zMod_fail N p μ = some (0, μ) := by rw [zMod_fail_u, if_pos h]
/-- a fail in general -/
theorem zfc {p : Int} : zMod_fail N p μ = some (0, zF μ 12 (if 0 ≤ μ.1 12 then μ.1 12 else p)) := by
  rw [zMod_fail_u]
  split
  · congr 2
    refine Prod.ext (funext fun j => ?_) rfl
    rw [zF_1]
    split
    · rename_i e; rw [e]
    · rfl
  · rfl
theorem uD_iff (u : Int) : uD u = true ↔ 48 ≤ u ∧ u ≤ 57 := by unfold uD; simp
theorem zF_F {σ : z_S} {k : Nat} {v w : Int} : zF (zF σ k v) k w = zF σ k w := by
  refine Prod.ext (funext fun j => ?_) rfl
  rw [zF_1, zF_1, zF_1]
  split <;> rfl
/-- digits, read by both -/
theorem znum_loop (hx : xL σ μ) : ∀ (n n2 : Nat) (v w a : Int), 0 ≤ a → a ≤ μ.1 2 → μ.1 2 - a + 1 ≤ n → μ.1 2 - a + 1 ≤ n2 → 0 ≤ v → v ≤ 100000 → 0 ≤ w → w ≤ 100009 → pBnd v w →
    ∃ v' w' b, zReader_readNumber_l26 N n v (zF σ 12 a) = some (v', zF σ 12 b) ∧ zMod_number_l39 N n2 w (zF μ 11 a) = some (w', zF μ 11 b) ∧ 0 ≤ v' ∧ v' ≤ 100000 ∧ 0 ≤ w' ∧ w' ≤ 100009 ∧ pBnd v' w' ∧ a ≤ b ∧ b ≤ μ.1 2 ∧ ¬ (48 ≤ uA μ b ∧ uA μ b ≤ 57) ∧ ∀ i, a ≤ i → i < b → 48 ≤ uA μ i ∧ uA μ i ≤ 57 := by
  intro n
  induction n with
  | zero => intro n2 v w a h0 h1 h2; omega
  | succ n ih =>
    intro n2 v w a h0 h1 h2 h3 v0 v1 w0 w1 hb
    obtain ⟨n2, rfl⟩ : ∃ k, n2 = k + 1 := ⟨n2 - 1, by omega⟩
    have h200 := hx.2.2.1
    have hxa : xL (zF σ 12 a) (zF μ 11 a) := xL_mv hx rfl rfl rfl rfl
    have hua : uA (zF μ 11 a) = uA μ := uA_mv rfl rfl
    have hse : zMod_see N 0 (zF μ 11 a) = some (uA μ a, zF μ 11 a) := by
      have := zse (N := N) hxa 0 (by show 0 ≤ a + 0; omega) (by show a + 0 < 1000; omega)
      rw [hua] at this
      rw [this]
      show some (uA μ (a + 0), _) = _
      rw [Int.add_zero]
    have hun : zReader_unitAt N ((zF σ 12 a).1 12) (zF σ 12 a) = some (uA μ a, zF σ 12 a) := by rw [zua hxa, hua]; rfl
    rw [zReader_readNumber_l26_s, zMod_number_l39_s, hse]
    simp only [Option.bind_some]
    rw [zm_isDigit]
    simp only [Option.bind_some]
    by_cases c : 48 ≤ uA μ a ∧ uA μ a ≤ 57
    · have hd : uD (uA μ a) = true := (uD_iff _).mpr c
      have hal : a < μ.1 2 := ((uA_bd hx a).2.2.mp (by omega)).2
      have hz : zb (uD (uA μ a)) = 1 := by rw [hd]; rfl
      rw [hz, if_neg (show ¬ (zF σ 12 a).1 11 ≤ (zF σ 12 a).1 12 by show ¬ σ.1 11 ≤ a; have := hx.1; omega), hun]
      simp only [Option.bind_some]
      rw [zc_isDigit]
      simp only [Option.bind_some]
      rw [hz, if_neg (by decide), if_neg (by decide), hun]
      simp only [Option.bind_some]
      rw [if_pos (show zin (v * 10) from ⟨by omega, by omega⟩), if_pos (show zin (v * 10 + uA μ a) from ⟨by omega, by omega⟩), if_pos (show zin (v * 10 + uA μ a - 48) from ⟨by omega, by omega⟩), if_pos (show zin ((zF σ 12 a).1 12 + 1) from ⟨by show -2147483648 ≤ a + 1; omega, by show a + 1 < 2147483648; omega⟩)]
      have e1 : zF (zF σ 12 a) 12 ((zF σ 12 a).1 12 + 1) = zF σ 12 (a + 1) := zF_F
      have e2 : zF (zF μ 11 a) 11 ((zF μ 11 a).1 11 + 1) = zF μ 11 (a + 1) := zF_F
      rw [e1]
      have hstep : ∀ w2, 0 ≤ w2 → w2 ≤ 100009 → pBnd (if 100000 < v * 10 + uA μ a - 48 then 100000 else v * 10 + uA μ a - 48) w2 →
          ∃ v' w' b, zReader_readNumber_l26 N n (if 100000 < v * 10 + uA μ a - 48 then 100000 else v * 10 + uA μ a - 48) (zF σ 12 (a + 1)) = some (v', zF σ 12 b) ∧ zMod_number_l39 N n2 w2 (zF μ 11 (a + 1)) = some (w', zF μ 11 b) ∧ 0 ≤ v' ∧ v' ≤ 100000 ∧ 0 ≤ w' ∧ w' ≤ 100009 ∧ pBnd v' w' ∧ a ≤ b ∧ b ≤ μ.1 2 ∧ ¬ (48 ≤ uA μ b ∧ uA μ b ≤ 57) ∧ ∀ i, a ≤ i → i < b → 48 ≤ uA μ i ∧ uA μ i ≤ 57 := fun w2 x0 x1 x2 => by
        obtain ⟨v', w', b, q1, q2, q3, q4, q5, q6, q7, q8, q9, q10, q11⟩ := ih n2 _ w2 (a + 1) (by omega) (by omega) (by omega) (by omega) (by split <;> omega) (by split <;> omega) x0 x1 x2
        refine ⟨v', w', b, q1, q2, q3, q4, q5, q6, q7, by omega, q9, q10, fun i i0 i1 => ?_⟩
        by_cases e : i = a
        · rw [e]; exact c
        · exact q11 i (by omega) i1
      unfold pBnd at hb
      by_cases cw : w ≤ 10000
      · rw [if_pos cw, hse]
        simp only [Option.bind_some]
        rw [if_pos (show zin (10 * w) from ⟨by omega, by omega⟩), if_pos (show zin (10 * w + uA μ a) from ⟨by omega, by omega⟩), if_pos (show zin (10 * w + uA μ a - 48) from ⟨by omega, by omega⟩), if_pos (show zin ((zF μ 11 a).1 11 + 1) from ⟨by show -2147483648 ≤ a + 1; omega, by show a + 1 < 2147483648; omega⟩), e2]
        exact hstep _ (by omega) (by omega) (by unfold pBnd; split <;> omega)
      · rw [if_neg cw, if_pos (show zin ((zF μ 11 a).1 11 + 1) from ⟨by show -2147483648 ≤ a + 1; omega, by show a + 1 < 2147483648; omega⟩), e2]
        exact hstep _ w0 w1 (by unfold pBnd; split <;> omega)
    · have hd : uD (uA μ a) = false := by
        by_cases z : uD (uA μ a) = true
        · exact absurd ((uD_iff _).mp z) c
        · exact Bool.eq_false_iff.mpr z
      have hz : zb (uD (uA μ a)) = 0 := by rw [hd]; rfl
      refine ⟨v, w, a, ?_, ?_, v0, v1, w0, w1, hb, Int.le_refl _, h1, c, fun i i0 i1 => by omega⟩
      · by_cases q : (zF σ 12 a).1 11 ≤ (zF σ 12 a).1 12
        · rw [if_pos q]
        · rw [if_neg q, hun]
          simp only [Option.bind_some]
          rw [zc_isDigit]
          simp only [Option.bind_some]
          rw [hz, if_pos rfl]
      · rw [hz, if_pos rfl]
theorem znum_ok (hN : 300 ≤ N) (hx : xL σ μ) {a : Int} (ha : σ.1 12 = a) (hm : μ.1 11 = a) (h0 : 0 ≤ a) (hd : 48 ≤ uA μ a ∧ uA μ a ≤ 57) :
    ∃ v w b, zReader_readNumber N σ = some (v, zF σ 12 b) ∧ zMod_number N μ = some (w, zF μ 11 b) ∧ 0 ≤ v ∧ v ≤ 100000 ∧ 0 ≤ w ∧ w ≤ 100009 ∧ pBnd v w ∧ a < b ∧ b ≤ μ.1 2 ∧ ¬ (48 ≤ uA μ b ∧ uA μ b ≤ 57) ∧ ∀ i, a ≤ i → i < b → 48 ≤ uA μ i ∧ uA μ i ≤ 57 := by
  have hal : a < μ.1 2 := ((uA_bd hx a).2.2.mp (by omega)).2
  have h200 := hx.2.2.1
  have hz : zb (uD (uA μ a)) = 1 := by rw [(uD_iff _).mpr hd]; rfl
  obtain ⟨v, w, b, q1, q2, q3, q4, q5, q6, q7, q8, q9, q10, q11⟩ := znum_loop (N := N) hx N N 0 0 a h0 (by omega) (by omega) (by omega) (by omega) (by omega) (by omega) (by omega) (Or.inl ⟨rfl, by omega⟩)
  rw [zF_i (σ := σ) (k := 12) ha, zF_i (σ := μ) (k := 11) hm] at *
  refine ⟨v, w, b, ?_, ?_, q3, q4, q5, q6, q7, ?_, q9, q10, q11⟩
  · rw [zReader_readNumber_u, zua hx, ha]
    simp only [Option.bind_some]
    rw [zc_isDigit]
    simp only [Option.bind_some]
    rw [hz, if_neg (by decide), q1]
  · rw [zMod_number_u, zse hx 0 (by omega) (by omega), hm, Int.add_zero]
    simp only [Option.bind_some]
    rw [zm_isDigit]
    simp only [Option.bind_some]
    rw [hz, if_neg (by decide), q2]
  · have : b ≠ a := fun e => q10 (by rw [e]; exact hd)
    omega
theorem znum_no (hN : 300 ≤ N) (hx : xL σ μ) {a : Int} (ha : σ.1 12 = a) (hm : μ.1 11 = a) (h0 : 0 ≤ a) (h1 : a ≤ μ.1 2) (hw : μ.1 12 < 0) (hd : ¬ (48 ≤ uA μ a ∧ uA μ a ≤ 57)) :
    zReader_readNumber N σ = some (0, zF σ 13 a) ∧ zMod_number N μ = some (0, zF μ 12 a) := by
  have h200 := hx.2.2.1
  have hdd : uD (uA μ a) = false := by
    by_cases z : uD (uA μ a) = true
    · exact absurd ((uD_iff _).mp z) hd
    · exact Bool.eq_false_iff.mpr z
  have hz : zb (uD (uA μ a)) = 0 := by rw [hdd]; rfl
  constructor
  · rw [zReader_readNumber_u, zua hx, ha]
    simp only [Option.bind_some]
    rw [zc_isDigit]
    simp only [Option.bind_some]
    rw [hz, if_pos rfl, ha]
  · obtain ⟨n, rfl⟩ : ∃ n, N = n + 1 := ⟨N - 1, by omega⟩
    have hend : zMod_number_l39 (n + 1) (n + 1) 0 (zF μ 12 a) = some (0, zF μ 12 a) := by
      rw [zMod_number_l39_s, zse (xL_mv hx rfl rfl rfl rfl : xL σ (zF μ 12 a)) 0 (by show 0 ≤ μ.1 11 + 0; omega) (by show μ.1 11 + 0 < 1000; omega)]
      simp only [Option.bind_some]
      rw [zm_isDigit]
      simp only [Option.bind_some]
      rw [uA_mv (μ' := zF μ 12 a) (μ := μ) rfl rfl]
      show (if zb (uD (uA μ (μ.1 11 + 0))) = 0 then _ else _) = _
      rw [Int.add_zero, hm, hz, if_pos rfl]
    rw [zMod_number_u, zse hx 0 (by omega) (by omega), hm, Int.add_zero]
    simp only [Option.bind_some]
    rw [zm_isDigit]
    simp only [Option.bind_some]
    rw [hz, if_pos rfl]
    by_cases c : μ.1 2 ≤ μ.1 11
    · rw [if_pos c, zfa hw]
      simp only [Option.bind_some]
      rw [show μ.1 2 = a by omega, hend]
    · rw [if_neg c, zfa hw]
      simp only [Option.bind_some]
      rw [hm, hend]
end LX
