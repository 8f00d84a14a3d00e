section BS
variable {N : Nat} {σ μ : z_S} {G : Nat → Int → Int}
theorem bnd_i (X : Option (Int × z_S)) : ((X.bind fun q => some ((0 : Int), q.2)).bind fun q => some ((0 : Int), q.2)) = X.bind fun q => some (0, q.2) := by
  cases X <;> rfl
theorem zd0 {u : Int} (h : ¬ (48 ≤ u ∧ u ≤ 57)) : zb (uD u) = 0 := by
  have : uD u = false := by
    by_cases z : uD u = true
    · exact absurd ((uD_iff _).mp z) h
    · exact Bool.eq_false_iff.mpr z
  rw [this]; rfl
theorem zd1 {u : Int} (h : 48 ≤ u ∧ u ≤ 57) : zb (uD u) = 1 := by rw [(uD_iff _).mpr h]; rfl
theorem zBsl (hN : 1000 ≤ N) {a : Int} (hS : pS σ μ G a 0) (h19 : σ.1 19 = -1) (hal : a < μ.1 2) (hT : zReader_readTerm N σ = (zReader_readBackslash N σ).bind fun q => some (0, q.2)) : tR σ μ (cT N σ) (zMod_escapedAtom N μ) (a + 1) := by
  obtain ⟨hx, hn, hl, ⟨ha, hma, h0, h1⟩, ⟨hs0, hw⟩, ⟨h5, hpm⟩, hB1, hB2, hB3, hB4, hB5⟩ := id hS
  have h200 := hx.2.2.1
  obtain ⟨N1, N2, N3, N4, N5, N6, N7, N8⟩ := id hn.2.2.2.2.2
  obtain ⟨⟨d0, d1, d2⟩, -⟩ := id hl
  have i1 : zin (a + 1) := ⟨by omega, by omega⟩
  have hub := uA_bd hx (a + 1)
  rw [zReader_readBackslash_u, ha, if_pos i1, zua hx] at hT
  simp only [Option.bind_some] at hT
  rw [zMod_escapedAtom_u, zse hx 1 (by omega) (by omega), hma]
  simp only [Option.bind_some]
  rw [hma]
  generalize hu : uA μ (a + 1) = u at *
  by_cases e98 : u = 98
  · have := (hub.2.2.mp (by omega)).2
    rw [if_pos e98, bnd_i] at hT
    rw [if_pos e98, if_pos e98]
    exact cT_done hT (tR_b (zAsr hS h19 (by omega) (by omega) (by decide)))
  rw [if_neg e98] at hT
  rw [if_neg e98]
  by_cases e66 : u = 66
  · have := (hub.2.2.mp (by omega)).2
    rw [if_pos e66, bnd_i] at hT
    rw [if_pos e66, if_neg e98]
    exact cT_done hT (tR_b (zAsr hS h19 (by omega) (by omega) (by decide)))
  rw [if_neg e66] at hT
  rw [if_neg e66, if_pos i1]
  rw [zc_isDigit] at hT
  simp only [Option.bind_some] at hT
  by_cases dg : 49 ≤ u ∧ u ≤ 57
  · rw [zd1 (by omega), if_neg (by decide), if_neg (by omega), ha, if_pos i1] at hT
    obtain ⟨v, w, b, q1, q2, q3, q4, q5, q6, q7, q8, q9, q10, q11, q12⟩ := zback_loop (N := N) (σ := σ) (μ := zF μ 13 u) (xL_mv hx rfl rfl rfl rfl) N N 0 0 (a + 1) (by omega) (by show a + 1 ≤ μ.1 2; omega) (by show μ.1 2 - (a + 1) + 1 ≤ _; omega) (by show μ.1 2 - (a + 1) + 1 ≤ _; omega) (by omega) (by omega) (by omega) (by omega) (Or.inl ⟨rfl, by omega⟩)
    have hua : uA (zF μ 13 u) = uA μ := uA_mv rfl rfl
    rw [hua] at q10 q12
    have hb : b ≠ a + 1 := fun z => q10 (by rw [z, hu]; omega)
    have w1 : 1 ≤ w := q12 (by rw [hu]; omega)
    have hsw : zF (zF μ 13 u) 11 (a + 1) = zF (zF μ 11 (a + 1)) 13 u := zF_swap (by decide)
    have hE : zMod_escape N 0 (zF μ 11 (a + 1)) = some (2, zF (zF (zF μ 13 u) 11 b) 13 w) := by
      have hxa : xL σ (zF μ 11 (a + 1)) := xL_mv hx rfl rfl rfl rfl
      show zMod_escape_b0 N 0 (zF μ 11 (a + 1)) = _
      unfold zMod_escape_b0
      rw [zse hxa 0 (by show 0 ≤ a + 1 + 0; omega) (by show a + 1 + 0 < 1000; omega), uA_mv (μ' := zF μ 11 (a + 1)) (μ := μ) rfl rfl]
      simp only [Option.bind_some]
      rw [show (zF μ 11 (a + 1)).1 11 + 0 = a + 1 from Int.add_zero _, hu, if_pos (by omega)]
      unfold zMod_escape_b23 zMod_escape_b67
      rw [if_neg (by omega), zm_isDigit]
      simp only [Option.bind_some]
      rw [zd1 (by omega), if_neg (by decide)]
      unfold zMod_escape_b74 zMod_escape_b86
      rw [if_pos rfl, ← hsw]
      exact q2
    have hNum : zReader_readNumber N (zF σ 12 (a + 1)) = some (v, zF σ 12 b) := by
      have hxa : xL (zF σ 12 (a + 1)) μ := xL_mv hx rfl rfl rfl rfl
      rw [zReader_readNumber_u, zua hxa]
      simp only [Option.bind_some]
      rw [show (zF σ 12 (a + 1)).1 12 = a + 1 from rfl, hu, zc_isDigit]
      simp only [Option.bind_some]
      rw [zd1 (by omega), if_neg (by decide)]
      exact q1
    rw [hNum] at hT
    simp only [Option.bind_some] at hT
    rw [zAdA (σ := zF σ 12 b) (by show 0 ≤ σ.1 4; omega) (by show σ.1 4 < 602; omega)] at hT
    simp only [Option.bind_some] at hT
    rw [hE]
    simp only [Option.bind_some]
    rw [if_neg (show ¬ (0 : Int) ≤ (zF (zF (zF μ 13 u) 11 b) 13 w).1 12 by show ¬ (0 : Int) ≤ μ.1 12; omega), if_neg (by decide), if_neg (by decide), mNode_e (by show 0 ≤ μ.1 8; omega) (by show μ.1 8 < 1300; omega)]
    simp only [Option.bind_some]
    exact zLf2 (σe := zF σ 12 b) (μe := zF (zF (zF μ 13 u) 11 b) 13 w) (kc := 6) (xc := v) (yc := a + 1) hN hS (b := b) (by omega) q9 (zfr_F zfr_rf (by simp)) (zfr_F (zfr_F (zfr_F zfr_rf (by simp)) (by simp)) (by simp)) rfl hs0 rfl hw (by decide) (fun z => absurd z (by decide)) (fun z => absurd z (by decide)) (fun z => absurd z (by decide)) (fun _ => ⟨rfl, q7.imp (fun z => z.1) id, w1, rfl, by omega⟩) hT
  · have hTe : zReader_readTerm N σ = ((zReader_readEscape N σ).bind fun q86 => if (0 : Int) ≤ (q86.2.1 13) then (some (0, q86.2)) else (if q86.1 < 65536 then (((zReader_addAtom N 1 q86.1 0 q86.2).bind fun q111 => (some ((0 : Int), q111.2)))) else (((zReader_addAtom N 3 q86.1 0 q86.2).bind fun q111 => (some (0, q111.2)))))).bind fun q => some (0, q.2) := by
      rw [hT]
      by_cases d : 48 ≤ u ∧ u ≤ 57
      · rw [zd1 d, if_neg (by decide), if_pos (by omega)]
      · rw [zd0 d, if_pos rfl]
    obtain ⟨v, how, σ', μ', e1, e2, e3, e4, e5⟩ := zEsc (σ := σ) (μ := zF μ 11 (a + 1)) (a := a) (ic := 0) hN (xL_mv hx rfl rfl rfl rfl) ha rfl h0 hal hs0 hw (Or.inl rfl) (fun _ => by
      rw [uA_mv (μ' := zF μ 11 (a + 1)) (μ := μ) rfl rfl, hu]; exact ⟨e98, e66, dg⟩)
    have fm : zfr [11, 12, 13] [] μ μ' := zfr_tr (zfr_F zfr_rf (by simp)) e4
    have t8 : μ'.1 8 = μ.1 8 := fm.1 8 (by simp)
    have s4 : σ'.1 4 = σ.1 4 := e3.1 4 (by simp)
    rw [e1] at hTe
    rw [e2]
    simp only [Option.bind_some] at hTe ⊢
    rcases e5 with ⟨f1, f2, f3, f4, f5, f6⟩ | ⟨f1, f2, f3, f4⟩
    · rw [if_neg (by omega)] at hTe
      rw [if_neg (by omega)]
      rcases f6 with ⟨g1, g2, g3, g4⟩ | ⟨g1, g2, g3⟩
      · rw [if_pos (by omega), zAdA (by omega) (by omega)] at hTe
        simp only [Option.bind_some] at hTe
        rw [if_pos g1, mNode_e (by omega) (by omega)]
        simp only [Option.bind_some]
        exact zLf2 hN hS (b := σ'.1 12) (by omega) f5 e3 fm rfl f1 f3.symm f2 (by decide) (fun _ => ⟨rfl, g2, by omega, by omega⟩) (fun z => absurd z (by decide)) (fun z => absurd z (by decide)) (fun z => absurd z (by decide)) hTe
      · have hv : ¬ v < 65536 := by unfold uLt at g3; omega
        rw [if_neg hv, zAdA (by omega) (by omega)] at hTe
        simp only [Option.bind_some] at hTe
        rw [if_neg (by omega), if_pos g1, mNode_e (by omega) (by omega)]
        simp only [Option.bind_some]
        exact zLf2 hN hS (b := σ'.1 12) (by omega) f5 e3 fm rfl f1 f3.symm f2 (by decide) (fun z => absurd z (by decide)) (fun z => absurd z (by decide)) (fun _ => ⟨rfl, g2, g3⟩) (fun z => absurd z (by decide)) hTe
    · rw [if_pos f1] at hTe
      rw [if_pos (by omega)]
      exact cT_done hTe ⟨0, 0, σ', μ', rfl, rfl, zfr_up e3 (by simp) (by simp), zfr_up fm (by simp) (by simp), Or.inr ⟨f1, f2, by omega, by omega, e3.1 11 (by simp)⟩⟩
end BS
