section TT
variable {N : Nat} {σ μ : z_S} {G : Nat → Int → Int}
theorem tR_wt {a k p b : Int} (hS : pS σ μ G a k) (hk : -1 ≤ k) (hp : 0 ≤ p) {X Y : Option (Int × z_S)} (hT : zReader_readTerm N σ = some (0, zF σ 13 p)) (hY : Y = some (0, zF μ 12 p)) : tR σ μ (cT N σ) Y b := by
  rw [hY]
  exact cT_done (X := some (0, zF σ 13 p)) hT (tR_wr hS hk hp)
/-- one term -/
theorem zTerm (hN : 1000 ≤ N) {a : Int} (hS : pS σ μ G a 0) (h19 : σ.1 19 = -1) (hal : a < μ.1 2) : tR σ μ (cT N σ) (zMod_term N μ) (a + 1) := by
  obtain ⟨hx, hn, hl, ⟨ha, hma, h0, h1⟩, ⟨hs0, hw⟩, ⟨h5, hpm⟩, hB1, hB2, hB3, hB4, hB5⟩ := id hS
  have h200 := hx.2.2.1
  obtain ⟨N1, N2, N3, N4, N5, N6, N7, N8⟩ := id hn.2.2.2.2.2
  obtain ⟨⟨d0, d1, d2⟩, -⟩ := id hl
  have i1 : zin (a + 1) := ⟨by omega, by omega⟩
  have hub := uA_bd hx a
  have hu0 : 0 ≤ uA μ a := hub.2.2.mpr ⟨h0, hal⟩
  have hT := zReader_readTerm_u N σ
  rw [zua hx, ha] at hT
  simp only [Option.bind_some] at hT
  rw [ha, if_pos i1, if_pos i1] at hT
  rw [zMod_term_u, zse hx 0 (by omega) (by omega), hma, Int.add_zero]
  simp only [Option.bind_some]
  rw [hma, if_pos i1, if_pos i1, if_pos i1]
  have hfail : zMod_fail N a μ = some (0, zF μ 12 a) := zfa (by omega)
  generalize uA μ a = u at *
  by_cases e : u = 124
  · subst e
    simp (decide := true) only [if_true, if_false] at hT ⊢
    exact cT_done hT (tR_b (zBar hS h19 hal))
  rw [if_neg e] at hT ⊢
  by_cases e : u = 40
  · subst e
    simp (decide := true) only [if_true, if_false] at hT ⊢
    exact cT_done hT (tR_b (zOpn hS h19 hal))
  rw [if_neg e] at hT ⊢
  by_cases e : u = 41
  · subst e
    simp (decide := true) only [if_true, if_false] at hT ⊢
    by_cases d : μ.1 14 = 0
    · rw [if_pos d, hfail]
      rw [zReader_readClosing_u, if_pos (by omega), ha] at hT
      exact tR_wt hS (by omega) h0 (X := none) hT rfl
    · rw [if_neg d]
      rcases zClo hN hS h19 hal (by omega) with h | ⟨σ1, g1, g2, g3, g4⟩
      · exact cT_done hT (tR_b h)
      · rw [g1] at hT
        exact cT_atom hT g2 g3 (tR_b g4)
  rw [if_neg e] at hT ⊢
  by_cases e : u = 94
  · subst e
    simp (decide := true) only [if_true, if_false] at hT ⊢
    exact cT_done hT (tR_b (zAsr hS h19 (by omega) (by omega) (by decide)))
  rw [if_neg e] at hT ⊢
  by_cases e : u = 36
  · subst e
    simp (decide := true) only [if_true, if_false] at hT ⊢
    exact cT_done hT (tR_b (zAsr hS h19 (by omega) (by omega) (by decide)))
  rw [if_neg e] at hT ⊢
  by_cases e : u = 92
  · subst e
    simp (decide := true) only [if_true, if_false] at hT ⊢
    exact tR_b (zBsl hN hS h19 hal hT)
  rw [if_neg e] at hT ⊢
  by_cases e : u = 42
  · subst e
    simp (decide := true) only [if_true, if_false] at hT ⊢
    rw [hfail]
    exact tR_wt hS (by omega) h0 (X := none) hT rfl
  rw [if_neg e] at hT ⊢
  by_cases e : u = 43
  · subst e
    simp (decide := true) only [if_true, if_false] at hT ⊢
    rw [hfail]
    exact tR_wt hS (by omega) h0 (X := none) hT rfl
  rw [if_neg e] at hT ⊢
  by_cases e : u = 63
  · subst e
    simp (decide := true) only [if_true, if_false] at hT ⊢
    rw [hfail]
    exact tR_wt hS (by omega) h0 (X := none) hT rfl
  rw [if_neg e] at hT ⊢
  by_cases e : u = 123
  · subst e
    simp (decide := true) only [if_true, if_false] at hT ⊢
    rw [hfail]
    exact tR_wt hS (by omega) h0 (X := none) hT rfl
  rw [if_neg e] at hT ⊢
  by_cases e : u = 125
  · subst e
    simp (decide := true) only [if_true, if_false] at hT ⊢
    rw [hfail]
    exact tR_wt hS (by omega) h0 (X := none) hT rfl
  rw [if_neg e] at hT ⊢
  by_cases e : u = 93
  · subst e
    simp (decide := true) only [if_true, if_false] at hT ⊢
    rw [hfail]
    exact tR_wt hS (by omega) h0 (X := none) hT rfl
  rw [if_neg e] at hT ⊢
  by_cases e : u = 91
  · subst e
    simp (decide := true) only [if_true, if_false] at hT ⊢
    exact zBrk hN hS hal hT
  rw [if_neg e] at hT ⊢
  have hmw : ∀ k, (mNode (zF μ 11 (a + 1)) k u 0 0).1 12 = -1 := fun k => hw
  by_cases e : u = 46
  · rw [if_pos e] at hT ⊢
    rw [zAdA (σ := zF σ 12 (a + 1)) (by show 0 ≤ σ.1 4; omega) (by show σ.1 4 < 602; omega)] at hT
    rw [mNode_e (μ := zF μ 11 (a + 1)) (by show 0 ≤ μ.1 8; omega) (by show μ.1 8 < 1300; omega)]
    simp only [Option.bind_some] at hT ⊢
    rw [hmw, if_neg (by decide)]
    exact zLf2 (σe := zF σ 12 (a + 1)) (μe := zF μ 11 (a + 1)) hN hS (b := a + 1) (by omega) (by omega) (zfr_F zfr_rf (by simp)) (zfr_F zfr_rf (by simp)) rfl hs0 rfl hw (by decide) (fun z => absurd z (by decide)) (fun _ => rfl) (fun z => absurd z (by decide)) (fun z => absurd z (by decide)) hT
  rw [if_neg e] at hT ⊢
  rw [zAdA (σ := zF σ 12 (a + 1)) (by show 0 ≤ σ.1 4; omega) (by show σ.1 4 < 602; omega)] at hT
  rw [mNode_e (μ := zF μ 11 (a + 1)) (by show 0 ≤ μ.1 8; omega) (by show μ.1 8 < 1300; omega)]
  simp only [Option.bind_some] at hT ⊢
  rw [hmw, if_neg (by decide)]
  exact zLf2 (σe := zF σ 12 (a + 1)) (μe := zF μ 11 (a + 1)) hN hS (b := a + 1) (by omega) (by omega) (zfr_F zfr_rf (by simp)) (zfr_F zfr_rf (by simp)) rfl hs0 rfl hw (by decide) (fun _ => ⟨rfl, rfl, hu0, hub.2.1⟩) (fun z => absurd z (by decide)) (fun z => absurd z (by decide)) (fun z => absurd z (by decide)) hT
end TT
