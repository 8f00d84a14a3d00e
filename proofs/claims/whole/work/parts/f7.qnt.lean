/-! quantifiers, read by both -/
section QN
variable {N : Nat} {σ μ σ' μ' : z_S}
theorem q218 (hx : xL σ μ) {t x5 x6 : Int} (h0 : 0 ≤ μ.1 11) (h1 : μ.1 11 ≤ μ.1 2) : zMod_quantify_b218 N t t x5 x6 1 μ = zMod_quantify_b269 N t x5 x6 (zF (zF μ 12 (if uA μ (μ.1 11) = 125 ∨ 0 ≤ μ.1 12 then μ.1 12 else μ.1 11)) 11 (μ.1 11 + 1)) := by
  have h200 := hx.2.2.1
  have b254 : ∀ τ : z_S, τ.1 11 = μ.1 11 → zMod_quantify_b254 N t t x5 x6 1 τ = zMod_quantify_b269 N t x5 x6 (zF τ 11 (μ.1 11 + 1)) := fun τ e => by
    unfold zMod_quantify_b254 zMod_quantify_b264
    rw [e, if_pos (show zin (μ.1 11 + 1) from ⟨by omega, by omega⟩), if_neg (by decide)]
  unfold zMod_quantify_b218
  rw [zse hx 0 (by omega) (by omega), Int.add_zero]
  simp only [Option.bind_some]
  by_cases c : uA μ (μ.1 11) = 125
  · rw [if_pos c, if_pos (Or.inl c), b254 _ rfl, zF_i (σ := μ) (k := 12) rfl]
  · rw [if_neg c]
    have h251 : zMod_quantify_b251 N t t x5 x6 1 (μ.1 11) μ = zMod_quantify_b269 N t x5 x6 (zF (zF μ 12 (if 0 ≤ μ.1 12 then μ.1 12 else μ.1 11)) 11 (μ.1 11 + 1)) := by
      unfold zMod_quantify_b251
      rw [zfc]
      simp only [Option.bind_some]
      rw [b254 _ (by rfl)]
    have hif : (if uA μ (μ.1 11) = 125 ∨ 0 ≤ μ.1 12 then μ.1 12 else μ.1 11) = if 0 ≤ μ.1 12 then μ.1 12 else μ.1 11 := by
      by_cases c2 : 0 ≤ μ.1 12
      · rw [if_pos (Or.inr c2), if_pos c2]
      · rw [if_neg (fun z => by rcases z with z | z; exact c z; exact c2 z), if_neg c2]
    rw [hif]
    unfold zMod_quantify_b228
    by_cases c3 : μ.1 2 ≤ μ.1 11
    · rw [if_pos c3]
      unfold zMod_quantify_b247
      rw [show μ.1 2 = μ.1 11 by omega, h251]
    · rw [if_neg c3]
      unfold zMod_quantify_b240
      rw [h251]
/-- what a quantifier comes to -/
def qR (N : Nat) (σ μ : z_S) (t a : Int) : Prop :=
  (zReader_readQuantifier N σ = some (0, σ) ∧ zMod_quantify N t μ = zMod_quantify_b350 N t μ) ∨
  (∃ σ' lo2 hi2 b, zReader_readQuantifier N σ = some (1, σ') ∧ zMod_quantify N t μ = zMod_quantify_b269 N t lo2 hi2 (zF μ 11 b) ∧ zfr [12, 17, 18] [] σ σ' ∧ σ'.1 12 = b ∧ pBnd (σ'.1 17) lo2 ∧ pBnd (σ'.1 18) hi2 ∧ 0 ≤ lo2 ∧ lo2 ≤ 1000000 ∧ 0 ≤ hi2 ∧ hi2 ≤ 1000000 ∧ a + 1 ≤ b ∧ b ≤ μ.1 2) ∨
  (∃ σ' lo2 hi2 μ', zReader_readQuantifier N σ = some (0, σ') ∧ zMod_quantify N t μ = zMod_quantify_b269 N t lo2 hi2 μ' ∧ zfr [12, 13, 17, 18] [] σ σ' ∧ zfr [11, 12] [] μ μ' ∧ 0 ≤ σ'.1 13 ∧ μ'.1 12 = σ'.1 13 ∧ 0 ≤ μ'.1 11 ∧ μ'.1 11 ≤ 300)
theorem zBrc (hN : 1000 ≤ N) (hx : xL σ μ) {t a : Int} (ha : σ.1 12 = a) (hm : μ.1 11 = a) (h0 : 0 ≤ a) (h1 : a < μ.1 2) (hs : σ.1 13 = -1) (hw : μ.1 12 = -1) :
    (∃ σ' lo2 hi2 b, zReader_readBraces N σ = some (0, σ') ∧ zMod_quantify_b93 N t t a 1 (zF μ 11 (a + 1)) = zMod_quantify_b269 N t lo2 hi2 (zF μ 11 b) ∧ zfr [12, 17, 18] [] σ σ' ∧ σ'.1 12 = b ∧ pBnd (σ'.1 17) lo2 ∧ pBnd (σ'.1 18) hi2 ∧ 0 ≤ lo2 ∧ lo2 ≤ 1000000 ∧ 0 ≤ hi2 ∧ hi2 ≤ 1000000 ∧ a + 1 ≤ b ∧ b ≤ μ.1 2) ∨
    (∃ σ' lo2 hi2 μ', zReader_readBraces N σ = some (0, σ') ∧ zMod_quantify_b93 N t t a 1 (zF μ 11 (a + 1)) = zMod_quantify_b269 N t lo2 hi2 μ' ∧ zfr [12, 13, 17, 18] [] σ σ' ∧ zfr [11, 12] [] μ μ' ∧ 0 ≤ σ'.1 13 ∧ μ'.1 12 = σ'.1 13 ∧ 0 ≤ μ'.1 11 ∧ μ'.1 11 ≤ 300) := by
  have h200 := hx.2.2.1
  have i1 : zin (a + 1) := ⟨by omega, by omega⟩
  have hxa : xL (zF σ 12 (a + 1)) (zF μ 11 (a + 1)) := xL_mv hx rfl rfl rfl rfl
  have hua : uA (zF μ 11 (a + 1)) = uA μ := uA_mv rfl rfl
  have hNat : ((1 : Nat) = 0) = False := by simp
  rw [zReader_readBraces_u, ha, if_pos i1]
  unfold zMod_quantify_b93
  by_cases c1 : 48 ≤ uA μ (a + 1) ∧ uA μ (a + 1) ≤ 57
  · obtain ⟨v1, w1, b1, p1, p2, p3, p4, p5, p6, p7, p8, p9, p10, p11⟩ := znum_ok (N := N) (by omega) hxa (a := a + 1) rfl rfl (by omega) (by rw [hua]; exact c1)
    change b1 ≤ μ.1 2 at p9
    rw [hua] at p10 p11
    have e1 : zF (zF σ 12 (a + 1)) 12 b1 = zF σ 12 b1 := zF_F
    have e2 : zF (zF μ 11 (a + 1)) 11 b1 = zF μ 11 b1 := zF_F
    rw [p1, p2]
    simp only [Option.bind_some]
    rw [e1, e2, if_neg (show ¬ 0 ≤ (zF σ 12 b1).1 13 by show ¬ 0 ≤ σ.1 13; omega), if_neg (show ¬ 0 ≤ (zF μ 11 b1).1 12 by show ¬ 0 ≤ μ.1 12; omega)]
    generalize hσ1 : zF (zF (zF σ 12 b1) 17 v1) 18 v1 = σ1
    have f1 : zfr [12, 17, 18] [] σ σ1 := by rw [← hσ1]; exact zfr_F (zfr_F (zfr_F zfr_rf (by simp)) (by simp)) (by simp)
    have g12 : σ1.1 12 = b1 := by rw [← hσ1]; rfl
    have g17 : σ1.1 17 = v1 := by rw [← hσ1]; rfl
    have g18 : σ1.1 18 = v1 := by rw [← hσ1]; rfl
    have g13 : σ1.1 13 = -1 := by rw [f1.1 13 (by simp)]; exact hs
    have hx1 : xL σ1 (zF μ 11 b1) := xL_mv hx (f1.1 11 (by simp)) (f1.2 0 (by simp)) rfl rfl
    have hu1 : uA (zF μ 11 b1) = uA μ := uA_mv rfl rfl
    have hx1' : xL σ1 μ := xL_mv hx (f1.1 11 (by simp)) (f1.2 0 (by simp)) rfl rfl
    unfold zMod_quantify_b122
    rw [zua hx1, g12, hu1, zse hx1 0 (by show 0 ≤ b1 + 0; omega) (by show b1 + 0 < 1000; omega), hu1]
    simp only [Option.bind_some]
    rw [show (zF μ 11 b1).1 11 + 0 = b1 from Int.add_zero b1]
    by_cases c2 : uA μ b1 = 44
    · rw [if_pos c2, if_pos c2]
      have hb1 : b1 < μ.1 2 := ((uA_bd hx b1).2.2.mp (by omega)).2
      have i2 : zin (b1 + 1) := ⟨by omega, by omega⟩
      unfold zMod_quantify_b132
      rw [g12, if_pos i2, show (zF μ 11 b1).1 11 + 1 = b1 + 1 from rfl, if_pos i2]
      have e3 : zF (zF μ 11 b1) 11 (b1 + 1) = zF μ 11 (b1 + 1) := zF_F
      rw [e3]
      generalize hσ2 : zF σ1 12 (b1 + 1) = σ2
      have f2 : zfr [12, 17, 18] [] σ σ2 := by rw [← hσ2]; exact zfr_F f1 (by simp)
      have k12 : σ2.1 12 = b1 + 1 := by rw [← hσ2]; rfl
      have k17 : σ2.1 17 = v1 := by rw [← hσ2]; exact g17
      have k13 : σ2.1 13 = -1 := by rw [f2.1 13 (by simp)]; exact hs
      have hx2 : xL σ2 (zF μ 11 (b1 + 1)) := xL_mv hx (f2.1 11 (by simp)) (f2.2 0 (by simp)) rfl rfl
      have hu2 : uA (zF μ 11 (b1 + 1)) = uA μ := uA_mv rfl rfl
      rw [zua hx2, hu2, zse hx2 0 (by show 0 ≤ b1 + 1 + 0; omega) (by show b1 + 1 + 0 < 1000; omega), hu2]
      simp only [Option.bind_some]
      rw [show (zF μ 11 (b1 + 1)).1 11 + 0 = b1 + 1 from Int.add_zero (b1 + 1)]
      by_cases c3 : uA μ (b1 + 1) = 125
      · left
        have hb2 : b1 + 1 < μ.1 2 := ((uA_bd hx (b1 + 1)).2.2.mp (by omega)).2
        have hx3 : xL (zF σ2 18 100000) (zF μ 11 (b1 + 1)) := xL_mv hx2 rfl rfl rfl rfl
        refine ⟨zF (zF σ2 18 100000) 12 (b1 + 1 + 1), w1, 1000000, b1 + 1 + 1, ?_, ?_, zfr_F (zfr_F f2 (by simp)) (by simp), rfl, by show pBnd (σ2.1 17) w1; rw [k17]; exact p7, Or.inr ⟨by show 10000 < 100000; omega, by omega⟩, p5, by omega, by omega, by omega, by omega, by omega⟩
        · rw [if_pos c3, if_pos (show (zF σ2 18 100000).1 13 < 0 by show σ2.1 13 < 0; omega), zua hx3, hu2]
          simp only [Option.bind_some]
          rw [show (zF σ2 18 100000).1 12 = b1 + 1 from k12, if_pos c3, if_pos trivial, if_pos (show zin (b1 + 1 + 1) from ⟨by omega, by omega⟩)]
        · rw [if_pos c3]
          unfold zMod_quantify_b158 zMod_quantify_b167 zMod_quantify_b176 zMod_quantify_b186
          rw [if_neg (show ¬ 0 ≤ (zF μ 11 (b1 + 1)).1 12 by show ¬ 0 ≤ μ.1 12; omega), zse hx2 0 (by show 0 ≤ b1 + 1 + 0; omega) (by show b1 + 1 + 0 < 1000; omega), hu2]
          simp only [Option.bind_some]
          rw [show (zF μ 11 (b1 + 1)).1 11 + 0 = b1 + 1 from Int.add_zero (b1 + 1), if_pos c3, if_pos (show (zF μ 11 (b1 + 1)).1 11 ≤ b1 + 1 from Int.le_refl (b1 + 1)), q218 hx2 (by show 0 ≤ b1 + 1; omega) (by show b1 + 1 ≤ μ.1 2; omega), hu2, show (zF μ 11 (b1 + 1)).1 11 = b1 + 1 from rfl, if_pos (Or.inl c3), zF_i (σ := zF μ 11 (b1 + 1)) (k := 12) rfl, zF_F]
      · rw [if_neg c3, if_neg c3]
        unfold zMod_quantify_b163
        by_cases c4 : 48 ≤ uA μ (b1 + 1) ∧ uA μ (b1 + 1) ≤ 57
        · -- two numbers
          obtain ⟨v2, w2, b2, r1, r2, r3, r4, r5, r6, r7, r8, r9, r10, r11⟩ := znum_ok (N := N) (by omega) hx2 (a := b1 + 1) k12 rfl (by omega) (by rw [hu2]; exact c4)
          change b2 ≤ μ.1 2 at r9
          rw [hu2] at r10 r11
          have e4 : zF (zF μ 11 (b1 + 1)) 11 b2 = zF μ 11 b2 := zF_F
          rw [r1, r2]
          simp only [Option.bind_some]
          rw [e4, k12]
          have hx4 : xL (zF (zF σ2 12 b2) 18 v2) (zF μ 11 b2) := xL_mv hx2 rfl rfl rfl rfl
          have hu4 : uA (zF μ 11 b2) = uA μ := uA_mv rfl rfl
          obtain ⟨b, z1, z2⟩ := zab (N := N) (σ := zF (zF σ2 12 b2) 18 v2) (μ := zF μ 11 b2) (by omega) hx4 (s := a + 1) (e := b1) (t := b1 + 1) (f := b2) ⟨by omega, by omega, by show b1 ≤ μ.1 2; omega⟩ ⟨by omega, by omega, r9⟩ (by rw [hu4]; exact p11) (by rw [hu4]; exact r11)
          rw [show (zF σ 12 b1).1 12 = b1 from rfl, show (zF σ2 12 b2).1 12 = b2 from rfl, z1]
          simp only [Option.bind_some]
          rw [if_pos (show (zF (zF σ2 12 b2) 18 v2).1 13 < 0 by show σ2.1 13 < 0; omega), zua hx4, hu4]
          simp only [Option.bind_some]
          rw [show (zF (zF σ2 12 b2) 18 v2).1 12 = b2 from rfl]
          unfold zMod_quantify_b167 zMod_quantify_b176
          rw [if_neg (show ¬ 0 ≤ (zF μ 11 b2).1 12 by show ¬ 0 ≤ μ.1 12; omega), zse hx4 0 (by show 0 ≤ b2 + 0; omega) (by show b2 + 0 < 1000; omega), hu4]
          simp only [Option.bind_some]
          rw [show (zF μ 11 b2).1 11 + 0 = b2 from Int.add_zero b2]
          have h218 := q218 (N := N) (t := t) (x5 := w1) (x6 := w2) hx4 (by show 0 ≤ b2; omega) r9
          rw [hu4, show (zF μ 11 b2).1 11 = b2 from rfl] at h218
          by_cases c5 : uA μ b2 = 125
          · have hb2 : b2 < μ.1 2 := ((uA_bd hx b2).2.2.mp (by omega)).2
            rw [if_pos c5, if_pos c5]
            unfold zMod_quantify_b186 zMod_quantify_b195
            rw [if_neg (show ¬ (zF μ 11 b2).1 11 ≤ b1 + 1 by show ¬ b2 ≤ b1 + 1; omega), show (zF μ 11 b1).1 11 = b1 from rfl, show (zF μ 11 b2).1 11 = b2 from rfl, show (zF μ 11 (a + 1)).1 11 = a + 1 from rfl, z2]
            simp only [Option.bind_some]
            cases b
            · left
              rw [show zb false = 0 from rfl, if_pos rfl, if_pos rfl, if_pos (show zin (b2 + 1) from ⟨by omega, by omega⟩), h218, if_pos (Or.inl c5), zF_i (σ := zF μ 11 b2) (k := 12) rfl, zF_F]
              exact ⟨_, w1, w2, b2 + 1, rfl, rfl, zfr_F (zfr_F (zfr_F f2 (by simp)) (by simp)) (by simp), rfl, by show pBnd (σ2.1 17) w1; rw [k17]; exact p7, r7, p5, by omega, r5, by omega, by omega, by omega⟩
            · right
              rw [show zb true = 1 from rfl, if_neg (by decide), if_neg (by decide)]
              have hx5 : xL (zF (zF σ2 12 b2) 18 v2) (zF (zF μ 11 b2) 12 a) := xL_mv hx4 rfl rfl rfl rfl
              have h218' := q218 (N := N) (t := t) (x5 := w1) (x6 := w2) hx5 (by show 0 ≤ b2; omega) r9
              unfold zMod_quantify_b212
              rw [zfa (show (zF μ 11 b2).1 12 < 0 by show μ.1 12 < 0; omega)]
              simp only [Option.bind_some]
              rw [h218']
              refine ⟨_, w1, w2, _, rfl, rfl, zfr_F (zfr_F (zfr_F (zfr_up f2 (by simp) (by simp)) (by simp)) (by simp)) (by simp), zfr_F (zfr_F (zfr_F (zfr_F zfr_rf (by simp)) (by simp)) (by simp)) (by simp), h0, ?_, ?_, ?_⟩
              · exact if_pos (Or.inr h0)
              · show 0 ≤ b2 + 1; omega
              · show b2 + 1 ≤ 300; omega
          · right
            rw [if_neg c5, if_neg c5, h218, if_neg (show ¬ (uA μ b2 = 125 ∨ 0 ≤ (zF μ 11 b2).1 12) from fun z => by rcases z with z | z; exact c5 z; exact absurd (show 0 ≤ μ.1 12 from z) (by omega))]
            exact ⟨_, w1, w2, _, rfl, rfl, zfr_F (zfr_F (zfr_F (zfr_up f2 (by simp) (by simp)) (by simp)) (by simp)) (by simp), zfr_F (zfr_F (zfr_F zfr_rf (by simp)) (by simp)) (by simp), by show 0 ≤ b2; omega, rfl, by show 0 ≤ b2 + 1; omega, by show b2 + 1 ≤ 300; omega⟩
        · -- no second number
          right
          obtain ⟨r1, r2⟩ := znum_no (N := N) (by omega) hx2 (a := b1 + 1) k12 rfl (by omega) (by show b1 + 1 ≤ μ.1 2; omega) (by show μ.1 12 < 0; omega) (by rw [hu2]; exact c4)
          rw [r1, r2]
          simp only [Option.bind_some]
          have hx4 : xL (zF (zF σ2 13 (b1 + 1)) 18 0) (zF μ 11 (b1 + 1)) := xL_mv hx2 rfl rfl rfl rfl
          have hab := zab_c (N := N) hx4 (s := a + 1) (e := b1) (t := b1 + 1) (f := b1 + 1) ⟨by omega, by omega, by omega⟩ ⟨by omega, by omega, by omega⟩ (by rw [hu2]; exact p11) (fun i i0 i1 => by omega) (b1 - (a + 1)).toNat N (by omega) (by omega)
          rw [show (((b1 - (a + 1)).toNat : Nat) : Int) = b1 - (a + 1) by omega] at hab
          have hab2 : zReader_isAbove N (a + 1) b1 (b1 + 1) (b1 + 1) (zF (zF σ2 13 (b1 + 1)) 18 0) = some (zb (decide (zRt (uA (zF μ 11 (b1 + 1))) (b1 + 1) (b1 + 1) (b1 - (a + 1)).toNat < zRt (uA (zF μ 11 (b1 + 1))) (a + 1) b1 (b1 - (a + 1)).toNat)), zF (zF σ2 13 (b1 + 1)) 18 0) := by
            rw [zReader_isAbove_u, if_pos (show zin (b1 - (a + 1)) from ⟨by omega, by omega⟩), if_pos (show zin (b1 + 1 - (b1 + 1)) from ⟨by omega, by omega⟩), if_neg (by omega)]
            exact hab
          rw [k12, show (zF σ 12 b1).1 12 = b1 from rfl, show (zF σ2 13 (b1 + 1)).1 12 = b1 + 1 from k12, hab2]
          simp only [Option.bind_some]
          rw [if_neg (show ¬ (zF (zF σ2 13 (b1 + 1)) 18 0).1 13 < 0 by show ¬ b1 + 1 < 0; omega)]
          unfold zMod_quantify_b167
          rw [if_pos (show 0 ≤ (zF (zF μ 11 (b1 + 1)) 12 (b1 + 1)).1 12 by show 0 ≤ b1 + 1; omega)]
          have hx5 : xL σ2 (zF (zF μ 11 (b1 + 1)) 12 (b1 + 1)) := xL_mv hx2 rfl rfl rfl rfl
          rw [q218 hx5 (by show 0 ≤ b1 + 1; omega) (by show b1 + 1 ≤ μ.1 2; omega)]
          refine ⟨_, w1, 0, _, rfl, rfl, zfr_F (zfr_F (zfr_up f2 (by simp) (by simp)) (by simp)) (by simp), zfr_F (zfr_F (zfr_F (zfr_F zfr_rf (by simp)) (by simp)) (by simp)) (by simp), by show 0 ≤ b1 + 1; omega, ?_, ?_, ?_⟩
          · exact if_pos (Or.inr (show 0 ≤ b1 + 1 by omega))
          · show 0 ≤ b1 + 1 + 1; omega
          · show b1 + 1 + 1 ≤ 300; omega
    · rw [if_neg c2, if_neg c2, if_pos (by omega), zua hx1, g12, hu1]
      simp only [Option.bind_some]
      have h218 := q218 (N := N) (t := t) (x5 := w1) (x6 := w1) hx1 (by show 0 ≤ b1; omega) p9
      rw [hu1, show (zF μ 11 b1).1 11 = b1 from rfl] at h218
      rw [h218]
      by_cases c5 : uA μ b1 = 125
      · left
        have hb2 : b1 < μ.1 2 := ((uA_bd hx b1).2.2.mp (by omega)).2
        rw [if_pos c5, if_pos trivial, g12, if_pos (show zin (b1 + 1) from ⟨by omega, by omega⟩), if_pos (Or.inl c5), zF_i (σ := zF μ 11 b1) (k := 12) rfl, zF_F]
        exact ⟨_, w1, w1, b1 + 1, rfl, rfl, zfr_F f1 (by simp), rfl, by show pBnd (σ1.1 17) w1; rw [g17]; exact p7, by show pBnd (σ1.1 18) w1; rw [g18]; exact p7, p5, by omega, p5, by omega, by omega, by omega⟩
      · right
        rw [if_neg c5, g12, if_neg (show ¬ (uA μ b1 = 125 ∨ 0 ≤ (zF μ 11 b1).1 12) from fun z => by rcases z with z | z; exact c5 z; exact absurd (show 0 ≤ μ.1 12 from z) (by omega))]
        exact ⟨_, w1, w1, _, rfl, rfl, zfr_F (zfr_up f1 (by simp) (by simp)) (by simp), zfr_F (zfr_F (zfr_F zfr_rf (by simp)) (by simp)) (by simp), by show 0 ≤ b1; omega, rfl, by show 0 ≤ b1 + 1; omega, by show b1 + 1 ≤ 300; omega⟩
  · right
    obtain ⟨r1, r2⟩ := znum_no (N := N) (by omega) hxa (a := a + 1) rfl rfl (by omega) (by show a + 1 ≤ μ.1 2; omega) (by show μ.1 12 < 0; omega) (by rw [hua]; exact c1)
    rw [r1, r2]
    simp only [Option.bind_some]
    rw [if_pos (show 0 ≤ (zF (zF σ 12 (a + 1)) 13 (a + 1)).1 13 by show 0 ≤ a + 1; omega), if_neg (show ¬ (zF (zF (zF (zF σ 12 (a + 1)) 13 (a + 1)) 17 0) 18 0).1 13 < 0 by show ¬ a + 1 < 0; omega), if_pos (show 0 ≤ (zF (zF μ 11 (a + 1)) 12 (a + 1)).1 12 by show 0 ≤ a + 1; omega)]
    have hx5 : xL σ (zF (zF μ 11 (a + 1)) 12 (a + 1)) := xL_mv hx rfl rfl rfl rfl
    rw [q218 hx5 (by show 0 ≤ a + 1; omega) (by show a + 1 ≤ μ.1 2; omega)]
    refine ⟨_, 0, 0, _, rfl, rfl, zfr_F (zfr_F (zfr_F (zfr_F zfr_rf (by simp)) (by simp)) (by simp)) (by simp), zfr_F (zfr_F (zfr_F (zfr_F zfr_rf (by simp)) (by simp)) (by simp)) (by simp), by show 0 ≤ a + 1; omega, ?_, ?_, ?_⟩
    · exact if_pos (Or.inr (show 0 ≤ a + 1 by omega))
    · show 0 ≤ a + 1 + 1; omega
    · show a + 1 + 1 ≤ 300; omega
theorem zQnt (hN : 1000 ≤ N) (hx : xL σ μ) {t a : Int} (ha : σ.1 12 = a) (hm : μ.1 11 = a) (h0 : 0 ≤ a) (h1 : a ≤ μ.1 2) (hs : σ.1 13 = -1) (hw : μ.1 12 = -1) : qR N σ μ t a := by
  have h200 := hx.2.2.1
  have i1 : zin (a + 1) := ⟨by omega, by omega⟩
  have hse : zMod_see N 0 μ = some (uA μ a, μ) := by rw [zse hx 0 (by omega) (by omega), hm, Int.add_zero]
  unfold qR
  have hC : zReader_readQuantifier N σ = zReader_readQuantifier N σ := rfl
  conv at hC => rhs; rw [zReader_readQuantifier_u, ha, zua hx]
  simp only [Option.bind_some] at hC
  have hM : zMod_quantify N t μ = zMod_quantify_b0 N t μ := rfl
  unfold zMod_quantify_b0 at hM
  rw [hse] at hM
  simp only [Option.bind_some] at hM
  have hsign : ∀ u lo hi lo2 hi2 : Int, (u = 42 ∧ lo = 0 ∧ hi = 100000 ∧ lo2 = 0 ∧ hi2 = 1000000) ∨ (u = 43 ∧ lo = 1 ∧ hi = 100000 ∧ lo2 = 1 ∧ hi2 = 1000000) ∨ (u = 63 ∧ lo = 0 ∧ hi = 1 ∧ lo2 = 0 ∧ hi2 = 1) → uA μ a = u →
      (∃ σ' lo2 hi2 b, zReader_readQuantifier N σ = some (1, σ') ∧ zMod_quantify N t μ = zMod_quantify_b269 N t lo2 hi2 (zF μ 11 b) ∧ zfr [12, 17, 18] [] σ σ' ∧ σ'.1 12 = b ∧ pBnd (σ'.1 17) lo2 ∧ pBnd (σ'.1 18) hi2 ∧ 0 ≤ lo2 ∧ lo2 ≤ 1000000 ∧ 0 ≤ hi2 ∧ hi2 ≤ 1000000 ∧ a + 1 ≤ b ∧ b ≤ μ.1 2) := fun u lo hi lo2 hi2 hh hu => by
    have hal : a < μ.1 2 := ((uA_bd hx a).2.2.mp (by omega)).2
    refine ⟨zF (zF (zF σ 17 lo) 18 hi) 12 (a + 1), lo2, hi2, a + 1, ?_, ?_, zfr_F (zfr_F (zfr_F zfr_rf (by simp)) (by simp)) (by simp), rfl, ?_, ?_, by omega, by omega, by omega, by omega, by omega, by omega⟩
    · rw [hC, hu]
      rcases hh with ⟨rfl, rfl, rfl, -⟩ | ⟨rfl, rfl, rfl, -⟩ | ⟨rfl, rfl, rfl, -⟩ <;> simp only [Int.reduceEq, if_false, if_true] <;> rw [zReader_takeSign_u, ha, if_pos i1] <;> simp only [Option.bind_some] <;> rw [if_pos (Or.inr rfl)]
    · rw [hM, hu]
      rcases hh with ⟨rfl, rfl, rfl, rfl, rfl⟩ | ⟨rfl, rfl, rfl, rfl, rfl⟩ | ⟨rfl, rfl, rfl, rfl, rfl⟩ <;> simp only [Int.reduceEq, if_false, if_true, zMod_quantify_b20, zMod_quantify_b24, zMod_quantify_b25, zMod_quantify_b33, zMod_quantify_b37, zMod_quantify_b39, zMod_quantify_b47, zMod_quantify_b53, zMod_quantify_b65, zMod_quantify_b70, zMod_quantify_b77, zMod_quantify_b87, zMod_quantify_b264] <;> rw [hm, if_pos i1]
    · show pBnd lo lo2
      unfold pBnd; omega
    · show pBnd hi hi2
      unfold pBnd; omega
  by_cases c42 : uA μ a = 42
  · exact Or.inr (Or.inl (hsign 42 0 100000 0 1000000 (by omega) c42))
  by_cases c43 : uA μ a = 43
  · exact Or.inr (Or.inl (hsign 43 1 100000 1 1000000 (by omega) c43))
  by_cases c63 : uA μ a = 63
  · exact Or.inr (Or.inl (hsign 63 0 1 0 1 (by omega) c63))
  by_cases c123 : uA μ a = 123
  · have hal : a < μ.1 2 := ((uA_bd hx a).2.2.mp (by omega)).2
    have hM2 : zMod_quantify N t μ = zMod_quantify_b93 N t t a 1 (zF μ 11 (a + 1)) := by
      rw [hM, c123]
      simp only [Int.reduceEq, if_false, if_true, zMod_quantify_b24, zMod_quantify_b25, zMod_quantify_b37, zMod_quantify_b39, zMod_quantify_b47, zMod_quantify_b53, zMod_quantify_b59, zMod_quantify_b65, zMod_quantify_b70, zMod_quantify_b77, zMod_quantify_b87]
      rw [hm, if_pos i1]
    have hC2 : zReader_readQuantifier N σ = (zReader_readBraces N σ).bind fun q76 => if (0 : Int) ≤ (q76.2.1 13) then ((if zB 0 then some (0, q76.2) else none)) else ((if zB 1 then some (1, q76.2) else none)) := by
      rw [hC, c123]
      simp only [Int.reduceEq, if_false, if_true]
    rcases zBrc (t := t) hN hx ha hm h0 hal hs hw with ⟨σ', lo2, hi2, b, z1, z2, z3, z4⟩ | ⟨σ', lo2, hi2, μ', z1, z2, z3, z4, z5, z6⟩
    · refine Or.inr (Or.inl ⟨σ', lo2, hi2, b, ?_, by rw [hM2]; exact z2, z3, z4⟩)
      rw [hC2, z1]
      simp only [Option.bind_some]
      rw [if_neg (by rw [z3.1 13 (by simp)]; omega), if_pos (Or.inr rfl)]
    · refine Or.inr (Or.inr ⟨σ', lo2, hi2, μ', ?_, by rw [hM2]; exact z2, z3, z4, z5, z6⟩)
      rw [hC2, z1]
      simp only [Option.bind_some]
      rw [if_pos z5, if_pos (Or.inl rfl)]
  · left
    constructor
    · rw [hC, if_neg c42, if_neg c43, if_neg c63, if_neg c123]
    · rw [hM, if_neg c43]
      unfold zMod_quantify_b24 zMod_quantify_b25 zMod_quantify_b37 zMod_quantify_b39 zMod_quantify_b47 zMod_quantify_b53 zMod_quantify_b59 zMod_quantify_b69 zMod_quantify_b70 zMod_quantify_b87 zMod_quantify_b264
      rw [if_neg c63, if_neg c42, if_neg c43, if_neg c63, if_neg c123, if_pos rfl, if_neg c123, if_pos rfl]
end QN
