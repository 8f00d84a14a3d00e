/-! escapes, read by both -/
section ES
variable {N : Nat} {σ μ σ' μ' : z_S}
theorem zback_loop (hx : xL σ μ) : ∀ (n n2 : Nat) (v w a : Int), 0 ≤ a → a ≤ μ.1 2 → μ.1 2 - a + 1 ≤ n → μ.1 2 - a + 1 ≤ n2 → 0 ≤ v → v ≤ 100000 → 0 ≤ w → w ≤ 10009 → ((v = w ∧ w ≤ 1000) ∨ (1000 < v ∧ 1000 < w)) →
    ∃ v' w' b, zReader_readNumber_l26 N n v (zF σ 12 a) = some (v', zF σ 12 b) ∧ zMod_escape_l88 N n2 w (zF μ 11 a) = some (2, zF (zF μ 11 b) 13 w') ∧ 0 ≤ v' ∧ v' ≤ 100000 ∧ 0 ≤ w' ∧ w' ≤ 10009 ∧ ((v' = w' ∧ w' ≤ 1000) ∨ (1000 < v' ∧ 1000 < w')) ∧ a ≤ b ∧ b ≤ μ.1 2 ∧ ¬ (48 ≤ uA μ b ∧ uA μ b ≤ 57) ∧ w ≤ w' ∧ ((48 < uA μ a ∧ uA μ a ≤ 57) → 1 ≤ w') := by
  intro n
  induction n with
  | zero => intro n2 v w a h0 h1 h2; omega
  | succ n ih =>
    intro n2 v w a h0 h1 h2 h3 v0 v1 w0 w1 hb
    obtain ⟨n2, rfl⟩ : ∃ k, n2 = k + 1 := ⟨n2 - 1, by omega⟩
    have h200 := hx.2.2.1
    have hxa : xL (zF σ 12 a) (zF μ 11 a) := xL_mv hx rfl rfl rfl rfl
    have hua : uA (zF μ 11 a) = uA μ := uA_mv rfl rfl
    have hse : zMod_see N 0 (zF μ 11 a) = some (uA μ a, zF μ 11 a) := by
      have := zse (N := N) hxa 0 (by show 0 ≤ a + 0; omega) (by show a + 0 < 1000; omega)
      rw [hua] at this
      rw [this]
      show some (uA μ (a + 0), _) = _
      rw [Int.add_zero]
    have hun : zReader_unitAt N ((zF σ 12 a).1 12) (zF σ 12 a) = some (uA μ a, zF σ 12 a) := by rw [zua hxa, hua]; rfl
    rw [zReader_readNumber_l26_s, zMod_escape_l88_s, hse]
    simp only [Option.bind_some]
    rw [zm_isDigit]
    simp only [Option.bind_some]
    by_cases c : 48 ≤ uA μ a ∧ uA μ a ≤ 57
    · have hd : uD (uA μ a) = true := (uD_iff _).mpr c
      have hal : a < μ.1 2 := ((uA_bd hx a).2.2.mp (by omega)).2
      have hz : zb (uD (uA μ a)) = 1 := by rw [hd]; rfl
      rw [hz, if_neg (show ¬ (zF σ 12 a).1 11 ≤ (zF σ 12 a).1 12 by show ¬ σ.1 11 ≤ a; have := hx.1; omega), hun]
      simp only [Option.bind_some]
      rw [zc_isDigit]
      simp only [Option.bind_some]
      rw [hz, if_neg (by decide), if_neg (by decide), hun]
      simp only [Option.bind_some]
      rw [if_pos (show zin (v * 10) from ⟨by omega, by omega⟩), if_pos (show zin (v * 10 + uA μ a) from ⟨by omega, by omega⟩), if_pos (show zin (v * 10 + uA μ a - 48) from ⟨by omega, by omega⟩), if_pos (show zin ((zF σ 12 a).1 12 + 1) from ⟨by show -2147483648 ≤ a + 1; omega, by show a + 1 < 2147483648; omega⟩)]
      have e1 : zF (zF σ 12 a) 12 ((zF σ 12 a).1 12 + 1) = zF σ 12 (a + 1) := zF_F
      have e2 : zF (zF μ 11 a) 11 ((zF μ 11 a).1 11 + 1) = zF μ 11 (a + 1) := zF_F
      rw [e1]
      have hstep : ∀ w2, 0 ≤ w2 → w2 ≤ 10009 → w ≤ w2 → ((48 < uA μ a) → 1 ≤ w2) → (((if 100000 < v * 10 + uA μ a - 48 then 100000 else v * 10 + uA μ a - 48) = w2 ∧ w2 ≤ 1000) ∨ (1000 < (if 100000 < v * 10 + uA μ a - 48 then 100000 else v * 10 + uA μ a - 48) ∧ 1000 < w2)) →
          ∃ v' w' b, zReader_readNumber_l26 N n (if 100000 < v * 10 + uA μ a - 48 then 100000 else v * 10 + uA μ a - 48) (zF σ 12 (a + 1)) = some (v', zF σ 12 b) ∧ zMod_escape_l88 N n2 w2 (zF μ 11 (a + 1)) = some (2, zF (zF μ 11 b) 13 w') ∧ 0 ≤ v' ∧ v' ≤ 100000 ∧ 0 ≤ w' ∧ w' ≤ 10009 ∧ ((v' = w' ∧ w' ≤ 1000) ∨ (1000 < v' ∧ 1000 < w')) ∧ a ≤ b ∧ b ≤ μ.1 2 ∧ ¬ (48 ≤ uA μ b ∧ uA μ b ≤ 57) ∧ w ≤ w' ∧ ((48 < uA μ a ∧ uA μ a ≤ 57) → 1 ≤ w') := fun w2 x0 x1 x3 x4 x2 => by
        obtain ⟨v', w', b, q1, q2, q3, q4, q5, q6, q7, q8, q9, q10, q11, -⟩ := ih n2 _ w2 (a + 1) (by omega) (by omega) (by omega) (by omega) (by split <;> omega) (by split <;> omega) x0 x1 x2
        exact ⟨v', w', b, q1, q2, q3, q4, q5, q6, q7, by omega, q9, q10, by omega, fun z => by have := x4 z.1; omega⟩
      by_cases cw : w ≤ 1000
      · rw [if_pos cw, hse]
        simp only [Option.bind_some]
        rw [if_pos (show zin (10 * w) from ⟨by omega, by omega⟩), if_pos (show zin (10 * w + uA μ a) from ⟨by omega, by omega⟩), if_pos (show zin (10 * w + uA μ a - 48) from ⟨by omega, by omega⟩), if_pos (show zin ((zF μ 11 a).1 11 + 1) from ⟨by show -2147483648 ≤ a + 1; omega, by show a + 1 < 2147483648; omega⟩), e2]
        exact hstep _ (by omega) (by omega) (by omega) (fun _ => by omega) (by split <;> omega)
      · rw [if_neg cw, if_pos (show zin ((zF μ 11 a).1 11 + 1) from ⟨by show -2147483648 ≤ a + 1; omega, by show a + 1 < 2147483648; omega⟩), e2]
        exact hstep _ w0 w1 (by omega) (fun _ => by omega) (by split <;> omega)
    · have hd : uD (uA μ a) = false := by
        by_cases z : uD (uA μ a) = true
        · exact absurd ((uD_iff _).mp z) c
        · exact Bool.eq_false_iff.mpr z
      have hz : zb (uD (uA μ a)) = 0 := by rw [hd]; rfl
      refine ⟨v, w, a, ?_, ?_, v0, v1, w0, w1, hb, Int.le_refl _, h1, c, Int.le_refl _, fun z => by omega⟩
      · by_cases q : (zF σ 12 a).1 11 ≤ (zF σ 12 a).1 12
        · rw [if_pos q]
        · rw [if_neg q, hun]
          simp only [Option.bind_some]
          rw [zc_isDigit]
          simp only [Option.bind_some]
          rw [hz, if_pos rfl]
      · rw [hz, if_pos rfl]
/-- what an escape comes to -/
def eR (σ μ σ' μ' : z_S) (a v how : Int) : Prop := zfr [12, 13] [] σ σ' ∧ zfr [11, 12, 13] [] μ μ' ∧
  ((σ'.1 13 = -1 ∧ μ'.1 12 = -1 ∧ σ'.1 12 = μ'.1 11 ∧ a + 2 ≤ σ'.1 12 ∧ σ'.1 12 ≤ μ.1 2 ∧ ((how = 0 ∧ v = μ'.1 13 ∧ 0 ≤ v ∧ v ≤ 65535) ∨ (how = 1 ∧ v = 65536 + μ'.1 13 ∧ uLt (μ'.1 13)))) ∨
   (0 ≤ σ'.1 13 ∧ μ'.1 12 = σ'.1 13 ∧ a + 1 ≤ μ'.1 11 ∧ μ'.1 11 ≤ a + 205))
theorem zsix (hx : xL σ μ) {m : Int} (hm : m ≤ 4) : ∀ (n n2 : Nat) (v i a : Int), 0 ≤ i → i ≤ m → m + 1 ≤ i + n → m + 1 ≤ i + n2 → 0 ≤ a → a + 1 + i ≤ μ.1 2 → 0 ≤ v → v < 16 ^ i.toNat → μ.1 12 = -1 →
    (∃ v', zReader_readSixteenths_l4 N n m v i (zF σ 12 (a + 1 + i)) = some (v', zF σ 12 (a + 1 + m)) ∧ zMod_digits_l5 N n2 1 m v (i + 1) (zF μ 11 a) = some (v', zF μ 11 a) ∧ 0 ≤ v' ∧ v' < 16 ^ m.toNat ∧ a + 1 + m ≤ μ.1 2) ∨
    (∃ w v' c', zReader_readSixteenths_l4 N n m v i (zF σ 12 (a + 1 + i)) = some (0, zF (zF σ 12 c') 13 w) ∧ zMod_digits_l5 N n2 1 m v (i + 1) (zF μ 11 a) = some (v', zF (zF μ 11 a) 12 w) ∧ 0 ≤ w ∧ zin v') := by
  intro n
  induction n with
  | zero => intro n2 v i a h0 h1 h2; omega
  | succ n ih =>
    intro n2 v i a h0 h1 h2 h3 ha h4 v0 v1 hw
    obtain ⟨n2, rfl⟩ : ∃ k, n2 = k + 1 := ⟨n2 - 1, by omega⟩
    have h200 := hx.2.2.1
    rw [zReader_readSixteenths_l4_s, zMod_digits_l5_s, if_pos (show zin (1 + m) from ⟨by omega, by omega⟩)]
    by_cases c : m ≤ i
    · left
      have e : i = m := by omega
      rw [if_pos c, if_pos (by omega)]
      exact ⟨v, by rw [e], rfl, v0, by rw [← e]; exact v1, by omega⟩
    · have hi : i = 0 ∨ i = 1 ∨ i = 2 ∨ i = 3 := by omega
      have hv : v < 4096 := by rcases hi with e | e | e | e <;> subst e <;> exact Int.lt_of_lt_of_le v1 (by decide)
      have hxa : xL (zF σ 12 (a + 1 + i)) (zF μ 11 a) := xL_mv hx rfl rfl rfl rfl
      have hua : uA (zF μ 11 a) = uA μ := uA_mv rfl rfl
      have hub := uA_bd hx (a + 1 + i)
      have hzu : zin (uA μ (a + 1 + i)) := ⟨by omega, by omega⟩
      have hse : zMod_see N (i + 1) (zF μ 11 a) = some (uA μ (a + 1 + i), zF μ 11 a) := by
        have := zse (N := N) hxa (i + 1) (by show 0 ≤ a + (i + 1); omega) (by show a + (i + 1) < 1000; omega)
        rw [hua] at this
        rw [this]
        show some (uA μ (a + (i + 1)), _) = _
        rw [show a + (i + 1) = a + 1 + i by omega]
      have hun : zReader_unitAt N ((zF σ 12 (a + 1 + i)).1 12) (zF σ 12 (a + 1 + i)) = some (uA μ (a + 1 + i), zF σ 12 (a + 1 + i)) := by rw [zua hxa, hua]; rfl
      rw [if_neg c, if_neg (by omega), if_neg (show ¬ 0 ≤ (zF μ 11 a).1 12 by show ¬ 0 ≤ μ.1 12; omega), hun, hse]
      simp only [Option.bind_some]
      rw [zc_sixteenth hzu, zm_sixteen hzu]
      simp only [Option.bind_some]
      have hX : -1 ≤ uX (uA μ (a + 1 + i)) ∧ uX (uA μ (a + 1 + i)) ≤ 15 := by unfold uX; split <;> (try split) <;> (try split) <;> omega
      by_cases c2 : 0 ≤ uX (uA μ (a + 1 + i))
      · have hal : a + 1 + i < μ.1 2 := by
          have : 0 ≤ uA μ (a + 1 + i) := by
            unfold uX at c2
            split at c2
            · omega
            · split at c2
              · omega
              · split at c2 <;> omega
          exact (hub.2.2.mp this).2
        rw [if_pos c2, if_pos c2, if_pos (show zin (v * 16) from ⟨by omega, by omega⟩), if_pos (show zin (v * 16 + uX (uA μ (a + 1 + i))) from ⟨by omega, by omega⟩), if_pos (show zin (i + 1) from ⟨by omega, by omega⟩), if_pos (show zin ((zF σ 12 (a + 1 + i)).1 12 + 1) from ⟨by show -2147483648 ≤ a + 1 + i + 1; omega, by show a + 1 + i + 1 < 2147483648; omega⟩), if_pos (show zin (16 * v) from ⟨by omega, by omega⟩), if_pos (show zin (16 * v + uX (uA μ (a + 1 + i))) from ⟨by omega, by omega⟩), if_pos (show zin (i + 1 + 1) from ⟨by omega, by omega⟩)]
        have e1 : zF (zF σ 12 (a + 1 + i)) 12 ((zF σ 12 (a + 1 + i)).1 12 + 1) = zF σ 12 (a + 1 + (i + 1)) := by
          rw [zF_F]
          show zF σ 12 (a + 1 + i + 1) = _
          rw [show a + 1 + i + 1 = a + 1 + (i + 1) by omega]
        rw [e1, show v * 16 = 16 * v by omega]
        refine ih n2 (16 * v + uX (uA μ (a + 1 + i))) (i + 1) a (by omega) (by omega) (by omega) (by omega) ha (by omega) (by omega) ?_ hw
        rw [show (i + 1).toNat = i.toNat + 1 by omega, Int.pow_succ]
        generalize (16 : Int) ^ i.toNat = P at v1 ⊢
        omega
      · right
        have e15 : uX (uA μ (a + 1 + i)) = -1 := by omega
        have hfin : ∀ w v'', 0 ≤ w → zMod_digits_l5 N n2 1 m v'' (i + 1 + 1) (zF (zF μ 11 a) 12 w) = some (v'', zF (zF μ 11 a) 12 w) := fun w v'' w0 => by
          obtain ⟨n3, rfl⟩ : ∃ k, n2 = k + 1 := ⟨n2 - 1, by omega⟩
          rw [zMod_digits_l5_s, if_pos (show zin (1 + m) from ⟨by omega, by omega⟩)]
          by_cases q : 1 + m ≤ i + 1 + 1
          · rw [if_pos q]
          · rw [if_neg q, if_pos (show 0 ≤ (zF (zF μ 11 a) 12 w).1 12 from w0)]
        refine ⟨a + 1 + i, 16 * v + uX (uA μ (a + 1 + i)), a + 1 + i, ?_, ?_, by omega, ⟨by omega, by omega⟩⟩
        · rw [if_neg c2]; rfl
        · rw [if_neg c2, if_pos (show zin ((zF μ 11 a).1 11 + (i + 1)) from ⟨by show -2147483648 ≤ a + (i + 1); omega, by show a + (i + 1) < 2147483648; omega⟩)]
          by_cases q : (zF μ 11 a).1 2 ≤ (zF μ 11 a).1 11 + (i + 1)
          · have q' : μ.1 2 ≤ a + (i + 1) := q
            rw [if_pos q, zfa (show (zF μ 11 a).1 12 < 0 by show μ.1 12 < 0; omega)]
            simp only [Option.bind_some]
            rw [if_pos (show zin (16 * v) from ⟨by omega, by omega⟩), if_pos (show zin (16 * v + uX (uA μ (a + 1 + i))) from ⟨by omega, by omega⟩), if_pos (show zin (i + 1 + 1) from ⟨by omega, by omega⟩)]
            have := hfin (μ.1 2) (16 * v + uX (uA μ (a + 1 + i))) (by omega)
            rw [show a + 1 + i = μ.1 2 by omega] at this ⊢
            exact this
          · rw [if_neg q, if_pos (show zin ((zF μ 11 a).1 11 + (i + 1)) from ⟨by show -2147483648 ≤ a + (i + 1); omega, by show a + (i + 1) < 2147483648; omega⟩), zfa (show (zF μ 11 a).1 12 < 0 by show μ.1 12 < 0; omega)]
            simp only [Option.bind_some]
            rw [if_pos (show zin (16 * v) from ⟨by omega, by omega⟩), if_pos (show zin (16 * v + uX (uA μ (a + 1 + i))) from ⟨by omega, by omega⟩), if_pos (show zin (i + 1 + 1) from ⟨by omega, by omega⟩)]
            have := hfin (a + 1 + i) (16 * v + uX (uA μ (a + 1 + i))) (by omega)
            show zMod_digits_l5 N n2 1 m _ (i + 1 + 1) (zF (zF μ 11 a) 12 (a + (i + 1))) = _
            rw [show a + (i + 1) = a + 1 + i by omega]
            exact this
theorem zand31 : ∀ n : Fin 128, zand (n.val : Int) 31 = zrem (n.val : Int) 32 ∧ 0 ≤ zrem (n.val : Int) 32 ∧ zrem (n.val : Int) 32 ≤ 31 := by decide
end ES
