section ET
variable {N : Nat} {σ μ σ' μ' : z_S}
theorem zEsc (hN : 1000 ≤ N) (hx : xL σ μ) {a ic : Int} (ha : σ.1 12 = a) (hm : μ.1 11 = a + 1) (h0 : 0 ≤ a) (h1 : a < μ.1 2) (hs : σ.1 13 = -1) (hw : μ.1 12 = -1) (hic : ic = 0 ∨ ic = 1) (hnot : ic = 0 → uA μ (a + 1) ≠ 98 ∧ uA μ (a + 1) ≠ 66 ∧ ¬ (49 ≤ uA μ (a + 1) ∧ uA μ (a + 1) ≤ 57)) :
    ∃ v how σ' μ', zReader_readEscape N σ = some (v, σ') ∧ zMod_escape N ic μ = some (how, μ') ∧ eR σ μ σ' μ' a v how := by
  have h200 := hx.2.2.1
  have hub := uA_bd hx (a + 1)
  have i1 : zin (a + 1) := ⟨by omega, by omega⟩
  have i2 : zin (a + 2) := ⟨by omega, by omega⟩
  have i3 : zin (a + 1 + 1) := ⟨by omega, by omega⟩
  have hse0 : zMod_see N 0 μ = some (uA μ (a + 1), μ) := by
    rw [zse hx 0 (by omega) (by omega), hm, Int.add_zero]
  have hC : zReader_readEscape N σ = zReader_readEscape N σ := rfl
  conv at hC => rhs; rw [zReader_readEscape_u, ha, if_pos i1, zua hx]
  simp only [Option.bind_some, ha, if_pos i2] at hC
  have hM : zMod_escape N ic μ = zMod_escape_b0 N ic μ := rfl
  unfold zMod_escape_b0 at hM
  rw [hse0] at hM
  simp only [Option.bind_some] at hM
  have hfail : ∀ (τ : z_S) (p : Int), τ.1 12 = -1 → zMod_fail N p τ = some (0, zF τ 12 p) := fun τ p e => zfa (by omega)
  have hset : ∀ l, uLt l → uA μ (a + 1) = l → ∃ v how σ' μ', zReader_readEscape N σ = some (v, σ') ∧ zMod_escape N ic μ = some (how, μ') ∧ eR σ μ σ' μ' a v how := fun l hl hu => by
    have hal : a + 1 < μ.1 2 := (hub.2.2.mp (by unfold uLt at hl; omega)).2
    refine ⟨65536 + l, 1, zF σ 12 (a + 2), zF (zF μ 13 l) 11 (a + 1 + 1), ?_, ?_, zfr_F zfr_rf (by simp), zfr_F (zfr_F zfr_rf (by simp)) (by simp), Or.inl ⟨hs, hw, ?_, ?_, ?_, Or.inr ⟨rfl, rfl, hl⟩⟩⟩
    · rw [hC, hu]
      rcases hl with e | e | e | e | e | e <;> subst e <;> simp only [Int.reduceEq, if_false, if_true] <;> rw [if_pos (show zin _ from ⟨by omega, by omega⟩)]
    · rw [hM, hu]
      rcases hl with e | e | e | e | e | e <;> subst e <;> simp only [Int.reduceLE, if_true, zMod_escape_b23, zMod_escape_b67, zm_isDigit, Option.bind_some, Int.reduceEq, if_false, show zb (uD 100) = 0 from rfl, show zb (uD 68) = 0 from rfl, show zb (uD 119) = 0 from rfl, show zb (uD 87) = 0 from rfl, show zb (uD 115) = 0 from rfl, show zb (uD 83) = 0 from rfl, zMod_escape_b144, zMod_escape_b150, zMod_escape_b156, zMod_escape_b162, zMod_escape_b168, zMod_escape_b174, zMod_escape_b180] <;>
        rw [if_pos (show zin _ from ⟨by show -2147483648 ≤ μ.1 11 + 1; omega, by show μ.1 11 + 1 < 2147483648; omega⟩)] <;> show some (1, zF (zF μ 13 _) 11 (μ.1 11 + 1)) = _ <;> rw [hm]
    · show a + 2 = a + 1 + 1; omega
    · show a + 2 ≤ a + 2; omega
    · show a + 2 ≤ μ.1 2; omega
  by_cases c48 : uA μ (a + 1) = 48
  · -- \0
    have hal : a + 1 < μ.1 2 := (hub.2.2.mp (by omega)).2
    have hxa : xL (zF σ 12 (a + 2)) (zF (zF μ 13 48) 13 0) := xL_mv hx rfl rfl rfl rfl
    have hua : uA (zF (zF μ 13 48) 13 0) = uA μ := uA_mv rfl rfl
    have hse1 : zMod_see N 1 (zF (zF μ 13 48) 13 0) = some (uA μ (a + 2), zF (zF μ 13 48) 13 0) := by
      have := zse (N := N) hxa 1 (by show 0 ≤ μ.1 11 + 1; omega) (by show μ.1 11 + 1 < 1000; omega)
      rw [hua] at this
      rw [this]
      show some (uA μ (μ.1 11 + 1), _) = _
      rw [hm, show a + 1 + 1 = a + 2 by omega]
    by_cases c : uD (uA μ (a + 2)) = true
    · have hz : zb (uD (uA μ (a + 2))) = 1 := by rw [c]; rfl
      refine ⟨0, 0, zF (zF σ 12 (a + 2)) 13 (a + 2), zF (zF (zF (zF μ 13 48) 13 0) 12 (a + 1 + 1)) 11 (a + 1 + 1), ?_, ?_, zfr_F (zfr_F zfr_rf (by simp)) (by simp), zfr_F (zfr_F (zfr_F (zfr_F zfr_rf (by simp)) (by simp)) (by simp)) (by simp), Or.inr ⟨?_, ?_, ?_, ?_⟩⟩
      · rw [hC, c48, if_pos rfl, zReader_readZero_u, zua hxa, hua]
        show ((some (uA μ (a + 2), zF σ 12 (a + 2))).bind _).bind _ = _
        simp only [Option.bind_some]
        rw [zc_isDigit]
        simp only [Option.bind_some]
        rw [hz, if_neg (by decide)]
        rfl
      · rw [hM, c48, if_pos (by decide)]
        unfold zMod_escape_b23 zMod_escape_b29
        rw [if_pos rfl, hse1]
        simp only [Option.bind_some]
        rw [zm_isDigit]
        simp only [Option.bind_some]
        rw [hz, if_neg (by decide)]
        unfold zMod_escape_b45 zMod_escape_b55
        rw [if_pos (show zin _ from ⟨by show -2147483648 ≤ μ.1 11 + 1; omega, by show μ.1 11 + 1 < 2147483648; omega⟩), hfail _ _ (by exact hw)]
        simp only [Option.bind_some]
        rw [if_pos (show zin _ from ⟨by show -2147483648 ≤ μ.1 11 + 1; omega, by show μ.1 11 + 1 < 2147483648; omega⟩)]
        show some (0, zF (zF (zF (zF μ 13 48) 13 0) 12 (μ.1 11 + 1)) 11 (μ.1 11 + 1)) = _
        rw [hm]
      · show 0 ≤ a + 2; omega
      · show a + 1 + 1 = a + 2; omega
      · show a + 1 ≤ a + 1 + 1; omega
      · show a + 1 + 1 ≤ a + 205; omega
    · have hz : zb (uD (uA μ (a + 2))) = 0 := by rw [Bool.eq_false_iff.mpr c]; rfl
      refine ⟨0, 0, zF σ 12 (a + 2), zF (zF (zF μ 13 48) 13 0) 11 (a + 1 + 1), ?_, ?_, zfr_F zfr_rf (by simp), zfr_F (zfr_F (zfr_F zfr_rf (by simp)) (by simp)) (by simp), Or.inl ⟨hs, hw, ?_, ?_, ?_, Or.inl ⟨rfl, rfl, by decide, by decide⟩⟩⟩
      · rw [hC, c48, if_pos rfl, zReader_readZero_u, zua hxa, hua]
        show ((some (uA μ (a + 2), zF σ 12 (a + 2))).bind _).bind _ = _
        simp only [Option.bind_some]
        rw [zc_isDigit]
        simp only [Option.bind_some]
        rw [hz, if_pos rfl]
        rfl
      · rw [hM, c48, if_pos (by decide)]
        unfold zMod_escape_b23 zMod_escape_b29
        rw [if_pos rfl, hse1]
        simp only [Option.bind_some]
        rw [zm_isDigit]
        simp only [Option.bind_some]
        rw [hz, if_pos rfl]
        unfold zMod_escape_b55
        rw [if_pos (show zin _ from ⟨by show -2147483648 ≤ μ.1 11 + 1; omega, by show μ.1 11 + 1 < 2147483648; omega⟩)]
        show some (0, zF (zF (zF μ 13 48) 13 0) 11 (μ.1 11 + 1)) = _
        rw [hm]
      · show a + 2 = a + 1 + 1; omega
      · show a + 2 ≤ a + 2; omega
      · show a + 2 ≤ μ.1 2; omega
  by_cases cd : 49 ≤ uA μ (a + 1) ∧ uA μ (a + 1) ≤ 57
  · -- a digit in a class
    have hic1 : ic = 1 := by rcases hic with e | e; exact absurd cd (hnot e).2.2; exact e
    have hal : a + 1 < μ.1 2 := (hub.2.2.mp (by omega)).2
    have hxa : xL σ (zF (zF μ 13 (uA μ (a + 1))) 12 (a + 1)) := xL_mv hx rfl rfl rfl rfl
    obtain ⟨v', w', b, q1, q2, q3, q4, q5, q6, q7, q8, q9, -⟩ := zback_loop (N := N) hxa N N 0 0 (a + 1) (by omega) (by show a + 1 ≤ μ.1 2; omega) (by show μ.1 2 - (a + 1) + 1 ≤ _; omega) (by show μ.1 2 - (a + 1) + 1 ≤ _; omega) (by omega) (by omega) (by omega) (by omega) (Or.inl ⟨rfl, by omega⟩)
    change b ≤ μ.1 2 at q9
    rw [zF_i (σ := zF (zF μ 13 (uA μ (a + 1))) 12 (a + 1)) (k := 11) (v := a + 1) hm] at q2
    have hnp : uN (uA μ (a + 1)) = true := by unfold uN uW uD; simp; omega
    have hz : zb (uN (uA μ (a + 1))) = 1 := by rw [hnp]; rfl
    have hd : zb (uD (uA μ (a + 1))) = 1 := by rw [(uD_iff _).mpr ⟨by omega, by omega⟩]; rfl
    refine ⟨uA μ (a + 1), 2, zF (zF σ 12 (a + 2)) 13 (a + 2 - 1), _, ?_, ?_, zfr_F (zfr_F zfr_rf (by simp)) (by simp), zfr_F (zfr_F (zfr_F (zfr_F zfr_rf (ks := [11, 12, 13]) (js := []) (k := 13) (v := uA μ (a + 1)) (by simp)) (k := 12) (v := a + 1) (by simp)) (k := 11) (v := b) (by simp)) (k := 13) (v := w') (by simp), Or.inr ⟨?_, ?_, ?_, ?_⟩⟩
    · rw [hC, if_neg c48, if_neg (by omega), if_neg (by omega), if_neg (by omega), if_neg (by omega), if_neg (by omega), if_neg (by omega), if_neg (by omega), if_neg (by omega), if_neg (by omega), if_neg (by omega), if_neg (by omega), if_neg (by omega), if_neg (by omega), if_neg (by omega), if_neg (by omega), if_neg (by omega), if_neg (by omega), zc_isNamePart]
      simp only [Option.bind_some]
      rw [hz, if_neg (by decide), if_pos (show zin _ from ⟨by show -2147483648 ≤ a + 2 - 1; omega, by show a + 2 - 1 < 2147483648; omega⟩)]
      rfl
    · rw [hM, if_pos (by omega)]
      unfold zMod_escape_b23 zMod_escape_b67
      rw [if_neg c48, zm_isDigit]
      simp only [Option.bind_some]
      rw [hd, if_neg (by decide)]
      unfold zMod_escape_b74 zMod_escape_b78 zMod_escape_b86
      rw [if_neg (by omega), hfail _ _ (by exact hw)]
      simp only [Option.bind_some]
      show zMod_escape_l88 N N 0 (zF (zF μ 13 (uA μ (a + 1))) 12 (μ.1 11)) = _
      rw [hm, q2]
    · show 0 ≤ a + 2 - 1; omega
    · show a + 1 = a + 2 - 1; omega
    · show a + 1 ≤ b; omega
    · show b ≤ a + 205; omega
  have hnd : zb (uD (uA μ (a + 1))) = 0 := by
    have : uD (uA μ (a + 1)) = false := by
      by_cases z : uD (uA μ (a + 1)) = true
      · have := (uD_iff _).mp z; omega
      · exact Bool.eq_false_iff.mpr z
    rw [this]; rfl
  by_cases cs : uLt (uA μ (a + 1))
  · exact hset _ cs rfl
  -- past the sets in the reference
  have hM2 : ∀ τ, zMod_escape_b23 N ic (uA μ (a + 1)) τ = zMod_escape_b192 N ic (uA μ (a + 1)) τ := fun τ => by
    unfold uLt at cs
    unfold zMod_escape_b23 zMod_escape_b67
    rw [if_neg c48, zm_isDigit]
    simp only [Option.bind_some]
    rw [hnd, if_pos rfl]
    unfold zMod_escape_b144 zMod_escape_b150 zMod_escape_b156 zMod_escape_b162 zMod_escape_b168 zMod_escape_b174
    rw [if_neg (by omega), if_neg (by omega), if_neg (by omega), if_neg (by omega), if_neg (by omega), if_neg (by omega)]
  have hsix : ∀ m : Int, (m = 2 ∧ uA μ (a + 1) = 120) ∨ (m = 4 ∧ uA μ (a + 1) = 117) → ∃ v how σ' μ', zReader_readEscape N σ = some (v, σ') ∧ zMod_escape N ic μ = some (how, μ') ∧ eR σ μ σ' μ' a v how := fun m hmm => by
    have hal : a + 1 < μ.1 2 := (hub.2.2.mp (by omega)).2
    have hxa : xL σ (zF μ 13 (uA μ (a + 1))) := xL_mv hx rfl rfl rfl rfl
    have h := zsix (N := N) hxa (m := m) (by omega) N N 0 0 (a + 1) (by omega) (by omega) (by omega) (by omega) (by omega) (by show a + 1 + 1 + 0 ≤ μ.1 2; omega) (by omega) (by show (0 : Int) < 16 ^ (0 : Int).toNat; decide) hw
    rw [zF_i (σ := zF μ 13 (uA μ (a + 1))) (k := 11) (v := a + 1) hm, show a + 1 + 1 + 0 = a + 2 by omega, show (0 : Int) + 1 = 1 by omega] at h
    have hcl : ∀ v τ, zReader_readSixteenths_l4 N N m 0 0 (zF σ 12 (a + 2)) = some (v, τ) → zReader_readEscape N σ = some (v, τ) := fun v τ e => by
      rw [hC]
      rcases hmm with ⟨rfl, e2⟩ | ⟨rfl, e2⟩ <;> rw [e2] <;> simp only [Int.reduceEq, if_false, if_true] <;> rw [zReader_readSixteenths_u, e] <;> rfl
    have hml : ∀ v τ, zMod_digits_l5 N N 1 m 0 1 (zF μ 13 (uA μ (a + 1))) = some (v, τ) → τ.1 11 = a + 1 → zMod_escape N ic μ = some (0, zF (zF τ 13 v) 11 (a + 1 + (m + 1))) := fun v τ e e1 => by
      rw [hM, if_pos (by omega), hM2]
      unfold zMod_escape_b192
      rcases hmm with ⟨rfl, e2⟩ | ⟨rfl, e2⟩
      · rw [if_pos e2]
        unfold zMod_escape_b204 zMod_escape_b213 zMod_escape_b218 zMod_escape_b235 zMod_escape_b240
        rw [if_pos e2, zMod_digits_u, e]
        simp only [Option.bind_some]
        rw [if_pos e2, e1, if_pos (show zin (a + 1 + 3) from ⟨by omega, by omega⟩)]
        rfl
      · rw [if_neg (by omega)]
        unfold zMod_escape_b198
        rw [if_pos e2]
        unfold zMod_escape_b204 zMod_escape_b217 zMod_escape_b218 zMod_escape_b239 zMod_escape_b240
        rw [if_neg (by omega), zMod_digits_u, e]
        simp only [Option.bind_some]
        rw [if_neg (by omega), e1, if_pos (show zin (a + 1 + 5) from ⟨by omega, by omega⟩)]
        rfl
    rcases h with ⟨v', q1, q2, q3, q4, q5⟩ | ⟨w, v', c', q1, q2, q3, q4⟩
    · change a + 1 + 1 + m ≤ μ.1 2 at q5
      refine ⟨v', 0, _, _, hcl _ _ q1, hml _ _ q2 hm, zfr_F zfr_rf (by simp), zfr_F (zfr_F (zfr_F zfr_rf (by simp)) (by simp)) (by simp), Or.inl ⟨hs, hw, ?_, ?_, ?_, Or.inl ⟨rfl, rfl, q3, ?_⟩⟩⟩
      · show a + 1 + 1 + m = a + 1 + (m + 1); omega
      · show a + 2 ≤ a + 1 + 1 + m; omega
      · exact q5
      · have : v' < 65536 := by
          rcases hmm with ⟨rfl, -⟩ | ⟨rfl, -⟩
          · exact Int.lt_of_lt_of_le q4 (by decide)
          · exact Int.lt_of_lt_of_le q4 (by decide)
        omega
    · refine ⟨0, 0, _, _, hcl _ _ q1, hml _ _ q2 hm, zfr_F (zfr_F zfr_rf (by simp)) (by simp), zfr_F (zfr_F (zfr_F (zfr_F zfr_rf (by simp)) (by simp)) (by simp)) (by simp), Or.inr ⟨q3, rfl, ?_, ?_⟩⟩
      · show a + 1 ≤ a + 1 + (m + 1); omega
      · show a + 1 + (m + 1) ≤ a + 205; omega
  by_cases c120 : uA μ (a + 1) = 120
  · exact hsix 2 (Or.inl ⟨rfl, c120⟩)
  by_cases c117 : uA μ (a + 1) = 117
  · exact hsix 4 (Or.inr ⟨rfl, c117⟩)
  have hM3 : ∀ τ, zMod_escape_b23 N ic (uA μ (a + 1)) τ = zMod_escape_b246 N ic (uA μ (a + 1)) τ := fun τ => by
    rw [hM2]
    unfold zMod_escape_b192 zMod_escape_b198
    rw [if_neg c120, if_neg c117]
  by_cases c99 : uA μ (a + 1) = 99
  · -- \c
    have hal : a + 1 < μ.1 2 := (hub.2.2.mp (by omega)).2
    have hxa : xL (zF σ 12 (a + 2)) (zF μ 13 99) := xL_mv hx rfl rfl rfl rfl
    have hua : uA (zF μ 13 99) = uA μ := uA_mv rfl rfl
    have hse1 : ∀ τ : z_S, τ.1 2 = μ.1 2 → τ.2 1 = μ.2 1 → τ.1 11 = a + 1 → zMod_see N 1 τ = some (uA μ (a + 2), τ) := fun τ e1 e2 e3 => by
      have hxt : xL σ τ := xL_mv hx rfl rfl e1 e2
      rw [zse hxt 1 (by omega) (by omega), e3, uA_mv e1 e2, show a + 1 + 1 = a + 2 by omega]
    have hb2 := uA_bd hx (a + 2)
    have hcl : zReader_readEscape N σ = zReader_readControl N (zF σ 12 (a + 2)) := by
      rw [hC, c99]
      simp only [Int.reduceEq, if_false, if_true]
      exact bind_id _
    have hml : zMod_escape N ic μ = zMod_escape_b252 N (zF μ 13 99) := by
      rw [hM, if_pos (by omega), hM3, c99]
      unfold zMod_escape_b246
      rw [if_pos rfl]
    by_cases c : uL (uA μ (a + 2)) = true
    · have hz : zb (uL (uA μ (a + 2))) = 1 := by rw [c]; rfl
      have hr : (65 ≤ uA μ (a + 2) ∧ uA μ (a + 2) ≤ 90) ∨ (97 ≤ uA μ (a + 2) ∧ uA μ (a + 2) ≤ 122) := by unfold uL at c; simpa using c
      have hal2 : a + 2 < μ.1 2 := (hb2.2.2.mp (by omega)).2
      obtain ⟨f1, f2, f3⟩ := zand31 ⟨(uA μ (a + 2)).toNat, by omega⟩
      dsimp only at f1 f2 f3
      rw [show (((uA μ (a + 2)).toNat : Nat) : Int) = uA μ (a + 2) by omega] at f1 f2 f3
      refine ⟨zand (uA μ (a + 2)) 31, 0, zF (zF σ 12 (a + 2)) 12 (a + 2 + 1), zF (zF (zF μ 13 99) 13 (zrem (uA μ (a + 2)) 32)) 11 (a + 1 + 2), ?_, ?_, zfr_F (zfr_F zfr_rf (by simp)) (by simp), zfr_F (zfr_F (zfr_F zfr_rf (by simp)) (by simp)) (by simp), Or.inl ⟨hs, hw, ?_, ?_, ?_, Or.inl ⟨rfl, f1, by rw [f1]; exact f2, by omega⟩⟩⟩
      · rw [hcl, zReader_readControl_u, zua hxa, hua]
        show (some (uA μ (a + 2), zF σ 12 (a + 2))).bind _ = _
        simp only [Option.bind_some]
        rw [zc_isLetter]
        simp only [Option.bind_some]
        rw [hz, if_neg (by decide), if_pos (show zin _ from ⟨by show -2147483648 ≤ a + 2 + 1; omega, by show a + 2 + 1 < 2147483648; omega⟩)]
        rfl
      · rw [hml]
        unfold zMod_escape_b252 zMod_escape_b293
        rw [hse1 (zF μ 13 99) rfl rfl hm]
        simp only [Option.bind_some]
        rw [zm_isLetter]
        simp only [Option.bind_some]
        rw [hz, if_neg (by decide), hse1 (zF μ 13 99) rfl rfl hm]
        simp only [Option.bind_some]
        rw [if_pos (show zin _ from ⟨by show -2147483648 ≤ μ.1 11 + 2; omega, by show μ.1 11 + 2 < 2147483648; omega⟩)]
        show some (0, zF (zF (zF μ 13 99) 13 (zrem (uA μ (a + 2)) 32)) 11 (μ.1 11 + 2)) = _
        rw [hm]
      · show a + 2 + 1 = a + 1 + 2; omega
      · show a + 2 ≤ a + 2 + 1; omega
      · show a + 2 + 1 ≤ μ.1 2; omega
    · have hz : zb (uL (uA μ (a + 2))) = 0 := by rw [Bool.eq_false_iff.mpr c]; rfl
      refine ⟨0, 0, zF (zF σ 12 (a + 2)) 13 (a + 2), zF (zF (zF (zF μ 13 99) 12 (a + 2)) 13 (zrem (uA μ (a + 2)) 32)) 11 (a + 1 + 2), ?_, ?_, zfr_F (zfr_F zfr_rf (by simp)) (by simp), zfr_F (zfr_F (zfr_F (zfr_F zfr_rf (by simp)) (by simp)) (by simp)) (by simp), Or.inr ⟨?_, ?_, ?_, ?_⟩⟩
      · rw [hcl, zReader_readControl_u, zua hxa, hua]
        show (some (uA μ (a + 2), zF σ 12 (a + 2))).bind _ = _
        simp only [Option.bind_some]
        rw [zc_isLetter]
        simp only [Option.bind_some]
        rw [hz, if_pos rfl]
        rfl
      · have h293 : zMod_escape_b293 N (zF (zF μ 13 99) 12 (a + 2)) = some (0, zF (zF (zF (zF μ 13 99) 12 (a + 2)) 13 (zrem (uA μ (a + 2)) 32)) 11 (a + 1 + 2)) := by
          unfold zMod_escape_b293
          rw [hse1 (zF (zF μ 13 99) 12 (a + 2)) rfl rfl hm]
          simp only [Option.bind_some]
          rw [if_pos (show zin _ from ⟨by show -2147483648 ≤ μ.1 11 + 2; omega, by show μ.1 11 + 2 < 2147483648; omega⟩)]
          show some (0, zF (zF (zF (zF μ 13 99) 12 (a + 2)) 13 (zrem (uA μ (a + 2)) 32)) 11 (μ.1 11 + 2)) = _
          rw [hm]
        rw [hml]
        unfold zMod_escape_b252
        rw [hse1 (zF μ 13 99) rfl rfl hm]
        simp only [Option.bind_some]
        rw [zm_isLetter]
        simp only [Option.bind_some]
        rw [hz, if_pos rfl]
        unfold zMod_escape_b263
        rw [if_pos (show zin _ from ⟨by show -2147483648 ≤ μ.1 11 + 1; omega, by show μ.1 11 + 1 < 2147483648; omega⟩)]
        by_cases q : (zF μ 13 99).1 2 ≤ (zF μ 13 99).1 11 + 1
        · have q' : μ.1 2 ≤ μ.1 11 + 1 := q
          rw [if_pos q]
          unfold zMod_escape_b286 zMod_escape_b290
          rw [hfail _ _ (by exact hw)]
          simp only [Option.bind_some]
          show zMod_escape_b293 N (zF (zF μ 13 99) 12 (μ.1 2)) = _
          rw [show μ.1 2 = a + 2 by omega, h293]
        · rw [if_neg q]
          unfold zMod_escape_b277 zMod_escape_b290
          rw [if_pos (show zin _ from ⟨by show -2147483648 ≤ μ.1 11 + 1; omega, by show μ.1 11 + 1 < 2147483648; omega⟩), hfail _ _ (by exact hw)]
          simp only [Option.bind_some]
          show zMod_escape_b293 N (zF (zF μ 13 99) 12 (μ.1 11 + 1)) = _
          rw [hm, show a + 1 + 1 = a + 2 by omega, h293]
      · show 0 ≤ a + 2; omega
      · rfl
      · show a + 1 ≤ a + 1 + 2; omega
      · show a + 1 + 2 ≤ a + 205; omega
  -- one unit
  have hM4 : ∀ τ : z_S, τ.1 11 = a + 1 → zMod_escape_b23 N ic (uA μ (a + 1)) τ = (if uA μ (a + 1) = 116 then zMod_escape_b357 N ic (uA μ (a + 1)) (zF τ 11 (a + 1 + 1)) else zMod_escape_b333 N ic (uA μ (a + 1)) (zF τ 11 (a + 1 + 1))) := fun τ e => by
    rw [hM3]
    unfold zMod_escape_b246 zMod_escape_b317
    rw [if_neg c99, e, if_pos i3, if_pos i3]
  have hctl : ∀ u e : Int, (u = 116 ∧ e = 9) ∨ (u = 110 ∧ e = 10) ∨ (u = 118 ∧ e = 11) ∨ (u = 102 ∧ e = 12) ∨ (u = 114 ∧ e = 13) → uA μ (a + 1) = u → ∃ v how σ' μ', zReader_readEscape N σ = some (v, σ') ∧ zMod_escape N ic μ = some (how, μ') ∧ eR σ μ σ' μ' a v how := fun u e hue hu => by
    have hal : a + 1 < μ.1 2 := (hub.2.2.mp (by omega)).2
    refine ⟨e, 0, zF σ 12 (a + 2), zF (zF (zF μ 13 u) 11 (a + 1 + 1)) 13 e, ?_, ?_, zfr_F zfr_rf (by simp), zfr_F (zfr_F (zfr_F zfr_rf (by simp)) (by simp)) (by simp), Or.inl ⟨hs, hw, ?_, ?_, ?_, Or.inl ⟨rfl, rfl, by omega, by omega⟩⟩⟩
    · rw [hC, hu]
      rcases hue with ⟨rfl, rfl⟩ | ⟨rfl, rfl⟩ | ⟨rfl, rfl⟩ | ⟨rfl, rfl⟩ | ⟨rfl, rfl⟩ <;> simp only [Int.reduceEq, if_false, if_true]
    · rw [hM, if_pos (by omega), hM4 _ (by exact hm), hu]
      have hi : (ic = 0) = (ic = 0) := rfl
      rcases hue with ⟨rfl, rfl⟩ | ⟨rfl, rfl⟩ | ⟨rfl, rfl⟩ | ⟨rfl, rfl⟩ | ⟨rfl, rfl⟩ <;> simp only [Int.reduceEq, if_false, if_true, zMod_escape_b357, zMod_escape_b333, zMod_escape_b339, zMod_escape_b345, zMod_escape_b351, zMod_escape_b362, zMod_escape_b370, zMod_escape_b375, zMod_escape_b381, zMod_escape_b386, zMod_escape_b392, zMod_escape_b397, zMod_escape_b403, zMod_escape_b408, zMod_escape_b414, zMod_escape_b420, zMod_escape_b442, zMod_escape_b427, zMod_escape_b470, ite_self]
    · show a + 2 = a + 1 + 1; omega
    · show a + 2 ≤ a + 2; omega
    · show a + 2 ≤ μ.1 2; omega
  by_cases c116 : uA μ (a + 1) = 116
  · exact hctl 116 9 (by omega) c116
  by_cases c110 : uA μ (a + 1) = 110
  · exact hctl 110 10 (by omega) c110
  by_cases c118 : uA μ (a + 1) = 118
  · exact hctl 118 11 (by omega) c118
  by_cases c102 : uA μ (a + 1) = 102
  · exact hctl 102 12 (by omega) c102
  by_cases c114 : uA μ (a + 1) = 114
  · exact hctl 114 13 (by omega) c114
  have hM5 : ∀ τ : z_S, τ.1 11 = a + 1 → zMod_escape_b23 N ic (uA μ (a + 1)) τ = (if ic = 0 then zMod_escape_b442 N (uA μ (a + 1)) 0 (zF (zF τ 11 (a + 1 + 1)) 13 (uA μ (a + 1))) else zMod_escape_b427 N (uA μ (a + 1)) 0 (zF (zF τ 11 (a + 1 + 1)) 13 (uA μ (a + 1)))) := fun τ e => by
    rw [hM4 τ e, if_neg c116]
    unfold zMod_escape_b333 zMod_escape_b339 zMod_escape_b345 zMod_escape_b351 zMod_escape_b361 zMod_escape_b362 zMod_escape_b375 zMod_escape_b386 zMod_escape_b397 zMod_escape_b408 zMod_escape_b419 zMod_escape_b420
    rw [if_neg c110, if_neg c118, if_neg c102, if_neg c114, if_neg c116, if_neg c110, if_neg c118, if_neg c102, if_neg c114]
  by_cases c98 : uA μ (a + 1) = 98
  · -- \b in a class
    have hic1 : ic = 1 := by rcases hic with e | e; exact absurd c98 (hnot e).1; exact e
    have hal : a + 1 < μ.1 2 := (hub.2.2.mp (by omega)).2
    refine ⟨8, 0, zF σ 12 (a + 2), zF (zF (zF (zF μ 13 98) 11 (a + 1 + 1)) 13 98) 13 8, ?_, ?_, zfr_F zfr_rf (by simp), zfr_F (zfr_F (zfr_F (zfr_F zfr_rf (by simp)) (by simp)) (by simp)) (by simp), Or.inl ⟨hs, hw, ?_, ?_, ?_, Or.inl ⟨rfl, rfl, by omega, by omega⟩⟩⟩
    · rw [hC, c98]; simp only [Int.reduceEq, if_false, if_true]
    · rw [hM, if_pos (by omega), hM5 _ (by exact hm), if_neg (by omega), c98]
      unfold zMod_escape_b427 zMod_escape_b433 zMod_escape_b470
      rw [if_pos rfl]
    · show a + 2 = a + 1 + 1; omega
    · show a + 2 ≤ a + 2; omega
    · show a + 2 ≤ μ.1 2; omega
  have hM6 : ∀ τ : z_S, τ.1 11 = a + 1 → zMod_escape_b23 N ic (uA μ (a + 1)) τ = zMod_escape_b446 N (uA μ (a + 1)) (zF (zF τ 11 (a + 1 + 1)) 13 (uA μ (a + 1))) := fun τ e => by
    rw [hM5 τ e]
    unfold zMod_escape_b427 zMod_escape_b442
    rw [if_neg c98, if_pos rfl, ite_self]
  have hCd : zReader_readEscape N σ = if uA μ (a + 1) < 0 then some (uA μ (a + 1), zF (zF σ 12 (a + 2)) 13 (a + 2 - 1)) else if 255 < uA μ (a + 1) then some (uA μ (a + 1), zF (zF σ 12 (a + 2)) 13 (a + 2 - 1)) else if zb (uN (uA μ (a + 1))) = 0 then some (uA μ (a + 1), zF σ 12 (a + 2)) else some (uA μ (a + 1), zF (zF σ 12 (a + 2)) 13 (a + 2 - 1)) := by
    unfold uLt at cs
    rw [hC, if_neg c48, if_neg (by omega), if_neg (by omega), if_neg (by omega), if_neg c98, if_neg c99, if_neg (by omega), if_neg c102, if_neg c110, if_neg c114, if_neg (by omega), if_neg c116, if_neg c117, if_neg c118, if_neg (by omega), if_neg c120, zc_isNamePart]
    have hz : zin ((zF σ 12 (a + 2)).1 12 - 1) := ⟨by show -2147483648 ≤ a + 2 - 1; omega, by show a + 2 - 1 < 2147483648; omega⟩
    simp only [Option.bind_some, if_pos hz]
    rfl
  by_cases cneg : uA μ (a + 1) < 0
  · have hsz : a + 1 = μ.1 2 := by
      have : ¬ (0 ≤ a + 1 ∧ a + 1 < μ.1 2) := fun z => by have := hub.2.2.mpr z; omega
      omega
    have hm1 : uA μ (a + 1) = -1 := by omega
    refine ⟨uA μ (a + 1), 0, zF (zF σ 12 (a + 2)) 13 (a + 2 - 1), zF (zF (zF (zF μ 13 (-1)) 12 (μ.1 2)) 11 (a + 1 + 1)) 13 (-1), ?_, ?_, zfr_F (zfr_F zfr_rf (by simp)) (by simp), zfr_F (zfr_F (zfr_F (zfr_F zfr_rf (by simp)) (by simp)) (by simp)) (by simp), Or.inr ⟨?_, ?_, ?_, ?_⟩⟩
    · rw [hCd, if_pos cneg]
    · rw [hM, if_neg (by omega)]
      unfold zMod_escape_b15
      rw [hfail _ _ (by exact hw)]
      simp only [Option.bind_some]
      rw [hM6 _ (by exact hm), hm1]
      unfold zMod_escape_b446 zMod_escape_b453 zMod_escape_b470
      rw [zm_isNamed]
      simp only [Option.bind_some]
      rw [show zb (uN (-1)) = 0 from rfl, if_pos rfl, if_pos (by decide)]
      rfl
    · show 0 ≤ a + 2 - 1; omega
    · show μ.1 2 = a + 2 - 1; omega
    · show a + 1 ≤ a + 1 + 1; omega
    · show a + 1 + 1 ≤ a + 205; omega
  · have hal : a + 1 < μ.1 2 := (hub.2.2.mp (by omega)).2
    by_cases cbad : 255 < uA μ (a + 1) ∨ uN (uA μ (a + 1)) = true
    · refine ⟨uA μ (a + 1), 0, zF (zF σ 12 (a + 2)) 13 (a + 2 - 1), zF (zF (zF (zF μ 13 (uA μ (a + 1))) 11 (a + 1 + 1)) 13 (uA μ (a + 1))) 12 (a + 1 + 1 - 1), ?_, ?_, zfr_F (zfr_F zfr_rf (by simp)) (by simp), zfr_F (zfr_F (zfr_F (zfr_F zfr_rf (by simp)) (by simp)) (by simp)) (by simp), Or.inr ⟨?_, ?_, ?_, ?_⟩⟩
      · rw [hCd, if_neg cneg]
        by_cases q : 255 < uA μ (a + 1)
        · rw [if_pos q]
        · have : uN (uA μ (a + 1)) = true := by rcases cbad with z | z; exact absurd z q; exact z
          rw [if_neg q, this, if_neg (by decide)]
      · rw [hM, if_pos (by omega), hM6 _ (by exact hm)]
        unfold zMod_escape_b446
        rw [zm_isNamed]
        simp only [Option.bind_some]
        have h460 : zMod_escape_b460 N (zF (zF (zF μ 13 (uA μ (a + 1))) 11 (a + 1 + 1)) 13 (uA μ (a + 1))) = some (0, zF (zF (zF (zF μ 13 (uA μ (a + 1))) 11 (a + 1 + 1)) 13 (uA μ (a + 1))) 12 (a + 1 + 1 - 1)) := by
          unfold zMod_escape_b460 zMod_escape_b470
          rw [if_pos (show zin _ from ⟨by show -2147483648 ≤ a + 1 + 1 - 1; omega, by show a + 1 + 1 - 1 < 2147483648; omega⟩), hfail _ _ (by exact hw)]
          rfl
        by_cases q : uN (uA μ (a + 1)) = true
        · rw [q, if_neg (by decide)]; exact h460
        · rw [Bool.eq_false_iff.mpr q, show zb false = 0 from rfl, if_pos rfl]
          unfold zMod_escape_b453
          rw [if_neg (by rcases cbad with z | z; omega; exact absurd z q)]
          exact h460
      · show 0 ≤ a + 2 - 1; omega
      · show a + 1 + 1 - 1 = a + 2 - 1; omega
      · show a + 1 ≤ a + 1 + 1; omega
      · show a + 1 + 1 ≤ a + 205; omega
    · have hnn : uN (uA μ (a + 1)) = false := Bool.eq_false_iff.mpr (fun z => cbad (Or.inr z))
      refine ⟨uA μ (a + 1), 0, zF σ 12 (a + 2), zF (zF (zF μ 13 (uA μ (a + 1))) 11 (a + 1 + 1)) 13 (uA μ (a + 1)), ?_, ?_, zfr_F zfr_rf (by simp), zfr_F (zfr_F (zfr_F zfr_rf (by simp)) (by simp)) (by simp), Or.inl ⟨hs, hw, ?_, ?_, ?_, Or.inl ⟨rfl, rfl, by omega, by omega⟩⟩⟩
      · rw [hCd, if_neg cneg, if_neg (fun z => cbad (Or.inl z)), hnn, show zb false = 0 from rfl, if_pos rfl]
      · rw [hM, if_pos (by omega), hM6 _ (by exact hm)]
        unfold zMod_escape_b446 zMod_escape_b453 zMod_escape_b470
        rw [zm_isNamed]
        simp only [Option.bind_some]
        rw [hnn, show zb false = 0 from rfl, if_pos rfl, if_pos (by omega)]
      · show a + 2 = a + 1 + 1; omega
      · show a + 2 ≤ a + 2; omega
      · show a + 2 ≤ μ.1 2; omega
end ET
