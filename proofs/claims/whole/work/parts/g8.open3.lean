section OPR
variable {N : Nat} {σ μ : z_S} {G : Nat → Int → Int}
theorem tR_wr {a k p b : Int} (hS : pS σ μ G a k) (hk : -1 ≤ k) (hp : 0 ≤ p) : tR σ μ (some (0, zF σ 13 p)) (some (0, zF μ 12 p)) b := by
  obtain ⟨hx, hn, hl, ⟨ha, hma, h0, h1⟩, ⟨hs0, hw⟩, ⟨h5, hpm⟩, hB1, hB2, hB3, hB4, hB5⟩ := hS
  have h200 := hx.2.2.1
  obtain ⟨N1, N2, N3, N4, N5, N6, N7, N8⟩ := id hn.2.2.2.2.2
  obtain ⟨⟨d0, d1, d2⟩, -⟩ := id hl
  exact ⟨0, 0, _, _, rfl, rfl, zfr_F zfr_rf (by simp), zfr_F zfr_rf (by simp), Or.inr ⟨hp, rfl, by show 0 ≤ μ.1 8; omega, by show μ.1 8 ≤ 1300; omega, rfl⟩⟩
theorem mO129_w {k : Int} (h : 0 ≤ μ.1 12) : zMod_openGroup_b129 N k μ = some (0, μ) := by
  unfold zMod_openGroup_b129 zMod_openGroup_b136
  rw [if_neg (by omega)]
theorem mO20_w (hx : xL σ μ) (h0 : 0 ≤ μ.1 11) (h1 : μ.1 11 ≤ 200) (h : 0 ≤ μ.1 12) : zMod_openGroup_b20 N 12 μ = some (0, μ) := by
  have h109 : ∀ k, zMod_openGroup_b109 N k μ = some (0, μ) := fun k => by unfold zMod_openGroup_b109; exact mO129_w h
  have h106 : ∀ k s, zMod_openGroup_b106 N k s μ = some (0, μ) := fun k s => by
    unfold zMod_openGroup_b106
    rw [zfb h]
    exact h109 k
  have h79 : ∀ k, zMod_openGroup_b79 N k μ = some (0, μ) := fun k => by
    unfold zMod_openGroup_b79 zMod_openGroup_b102 zMod_openGroup_b93
    rw [if_pos (show zin (μ.1 11 + 2) from ⟨by omega, by omega⟩)]
    split
    · exact h106 _ _
    · exact (if_pos (show zin (μ.1 11 + 2) from ⟨by omega, by omega⟩)).trans (h106 _ _)
  have h60 : ∀ x k, zMod_openGroup_b60 N x k μ = some (0, μ) := fun x k => by
    unfold zMod_openGroup_b60 zMod_openGroup_b67 zMod_openGroup_b73
    split
    · exact h109 _
    · split
      · exact h109 _
      · split
        · exact h109 _
        · exact h79 _
  unfold zMod_openGroup_b20
  rw [zse hx 1 (by omega) (by omega)]
  simp only [Option.bind_some]
  split
  · unfold zMod_openGroup_b30
    rw [zse hx 2 (by omega) (by omega)]
    simp only [Option.bind_some]
    unfold zMod_openGroup_b42 zMod_openGroup_b47 zMod_openGroup_b53 zMod_openGroup_b58
    split
    · exact h60 _ _
    · split
      · exact h60 _ _
      · exact h60 _ _
  · unfold zMod_openGroup_b112 zMod_openGroup_b121
    split
    · rw [zfb h]
      exact mO129_w h
    · exact mO129_w h
theorem zOpn {a : Int} (hS : pS σ μ G a 0) (h19 : σ.1 19 = -1) (hal : a < μ.1 2) : tR σ μ (zReader_readOpening N σ) (zMod_openGroup N μ) (a + 1) := by
  obtain ⟨hx, hn, hl, ⟨ha, hma, h0, h1⟩, ⟨hs0, hw⟩, ⟨h5, hpm⟩, hB1, hB2, hB3, hB4, hB5⟩ := id hS
  have h200 := hx.2.2.1
  obtain ⟨N1, N2, N3, N4, N5, N6, N7, N8⟩ := id hn.2.2.2.2.2
  obtain ⟨⟨d0, d1, d2⟩, -⟩ := id hl
  have h10 : ((1 : Nat) = 0) = False := by simp
  unfold zMod_openGroup zMod_openGroup_b0
  rw [zReader_readOpening_u, ha, if_pos (show zin (a + 1) from ⟨by omega, by omega⟩), zua hx]
  simp only [Option.bind_some, h10, if_false, if_true]
  by_cases c40 : μ.1 14 = 40
  · have hM : zMod_openGroup_b12 N 12 μ = some (0, zF μ 12 a) := by
      unfold zMod_openGroup_b12
      rw [zfa (by omega), hma]
      exact mO20_w (σ := σ) (xL_mv hx rfl rfl rfl rfl) (by show 0 ≤ μ.1 11; omega) (by show μ.1 11 ≤ 200; omega) (by exact h0)
    rw [if_pos c40, hM, if_pos (show (40 : Int) ≤ σ.1 14 by omega), if_pos (show (40 : Int) ≤ σ.1 14 by omega), ite_self, ha]
    exact tR_wr hS (by omega) h0
  · rw [if_neg c40, if_neg (show ¬ (40 : Int) ≤ σ.1 14 by omega), if_neg (show ¬ (40 : Int) ≤ σ.1 14 by omega)]
    unfold zMod_openGroup_b20
    rw [zse hx 1 (by omega) (by omega), hma]
    simp only [Option.bind_some]
    by_cases c63 : uA μ (a + 1) = 63
    · rw [if_pos c63, if_pos c63]
      have ha1 : a + 1 < μ.1 2 := ((uA_bd hx (a + 1)).2.2.mp (by omega)).2
      unfold zMod_openGroup_b30
      rw [zse hx 2 (by omega) (by omega), hma, ha, if_pos (show zin (a + 2) from ⟨by omega, by omega⟩), zua hx]
      simp only [Option.bind_some]
      have hu2 := (uA_bd hx (a + 2)).2.2
      by_cases e58 : uA μ (a + 2) = 58
      · have := (hu2.mp (by omega)).2
        unfold zMod_openGroup_b42 zMod_openGroup_b60 zMod_openGroup_b109
        rw [if_pos e58, if_pos e58, if_neg (by omega), if_pos e58, cOpen_e (by omega) (by omega) (by omega) (by omega) (by decide)]
        simp only [Option.bind_some]
        rw [show (cOpen σ 17 0).1 12 = a from ha, if_pos (show zin (a + 3) from ⟨by omega, by omega⟩)]
        exact pS_opn (k := 13) (num := 0) (p := a + 3) hS h19 (by decide) (by omega) (by simp) (by omega) (fun z => absurd z (by decide)) (fun _ => rfl) (fun z => absurd z (by decide)) (fun _ => rfl) rfl (fun j _ _ j12 => by rw [zF_1, if_neg j12]; rfl) rfl
      · rw [if_neg e58]
        unfold zMod_openGroup_b47
        by_cases e61 : uA μ (a + 2) = 61
        · have := (hu2.mp (by omega)).2
          unfold zMod_openGroup_b53 zMod_openGroup_b60 zMod_openGroup_b67 zMod_openGroup_b109
          rw [if_pos e61, if_neg e58, if_pos e61, if_neg (by omega), if_neg e58, if_pos e61, cOpen_e (by omega) (by omega) (by omega) (by omega) (by decide)]
          simp only [Option.bind_some]
          rw [show (cOpen σ 19 (σ.1 7)).1 7 = σ.1 7 from rfl, if_pos (show zin (σ.1 7 + 1) from ⟨by omega, by omega⟩), show (zF (cOpen σ 19 (σ.1 7)) 7 (σ.1 7 + 1)).1 12 = a from ha, if_pos (show zin (a + 3) from ⟨by omega, by omega⟩)]
          exact pS_opn (k := 14) (num := σ.1 7) (p := a + 3) hS h19 (by decide) (by omega) (by simp) (by omega) (fun z => absurd z (by decide)) (fun _ => rfl) (fun _ => ⟨rfl, rfl⟩) (fun z => absurd z (by decide)) rfl (fun j j7 _ j12 => by rw [zF_1, if_neg j12, zF_1, if_neg j7]; rfl) rfl
        · rw [if_neg e61]
          unfold zMod_openGroup_b58 zMod_openGroup_b60 zMod_openGroup_b67 zMod_openGroup_b73
          simp only [if_neg e58, if_neg e61]
          by_cases e33 : uA μ (a + 2) = 33
          · have := (hu2.mp (by omega)).2
            unfold zMod_openGroup_b109
            rw [if_pos e33, if_pos e33, cOpen_e (by omega) (by omega) (by omega) (by omega) (by decide)]
            simp only [Option.bind_some]
            rw [show (cOpen σ 21 (σ.1 7)).1 7 = σ.1 7 from rfl, if_pos (show zin (σ.1 7 + 1) from ⟨by omega, by omega⟩), show (zF (cOpen σ 21 (σ.1 7)) 7 (σ.1 7 + 1)).1 12 = a from ha, if_pos (show zin (a + 3) from ⟨by omega, by omega⟩)]
            exact pS_opn (σ' := zF (zF (cOpen σ 21 (σ.1 7)) 7 (σ.1 7 + 1)) 12 (a + 3)) (k := 15) (num := σ.1 7) (p := a + 3) hS h19 (by decide) (by omega) (by simp) (by omega) (fun z => absurd z (by decide)) (fun _ => rfl) (fun _ => ⟨rfl, rfl⟩) (fun z => absurd z (by decide)) rfl (fun j j7 _ j12 => by rw [zF_1, if_neg j12, zF_1, if_neg j7]; rfl) rfl
          · rw [if_neg e33, if_neg e33, ha, if_pos (show zin (a + 2) from ⟨by omega, by omega⟩)]
            have hM : zMod_openGroup_b79 N 15 μ = some (0, zF μ 12 (a + 2)) := by
              have h106 : zMod_openGroup_b106 N 15 (a + 2) μ = some (0, zF μ 12 (a + 2)) := by
                unfold zMod_openGroup_b106 zMod_openGroup_b109
                rw [zfa (by omega)]
                exact mO129_w (by show 0 ≤ a + 2; omega)
              unfold zMod_openGroup_b79 zMod_openGroup_b102 zMod_openGroup_b93
              rw [hma, if_pos (show zin (a + 2) from ⟨by omega, by omega⟩)]
              split
              · rw [show μ.1 2 = a + 2 by omega]; exact h106
              · rw [if_pos (show zin (a + 2) from ⟨by omega, by omega⟩)]; exact h106
            rw [hM]
            exact tR_wr hS (by omega) (by omega)
    · rw [if_neg c63, if_neg c63]
      unfold zMod_openGroup_b112
      by_cases c20 : μ.1 9 = 20
      · have hM : zMod_openGroup_b121 N 12 μ = some (0, zF μ 12 a) := by
          unfold zMod_openGroup_b121
          rw [zfa (by omega), hma]
          exact mO129_w (by exact h0)
        rw [if_pos c20, if_neg (show ¬ σ.1 8 < 20 by omega), hM, ha]
        exact tR_wr hS (by omega) h0
      · rw [if_neg c20, if_pos (show σ.1 8 < 20 by omega), if_pos (show zin (σ.1 8 + 1) from ⟨by omega, by omega⟩), ha, if_pos (show zin (a + 1) from ⟨by omega, by omega⟩), cOpen_e (σ := zF σ 12 (a + 1)) (by show 0 ≤ σ.1 4; omega) (by show σ.1 4 + 3 ≤ 602; omega) (by show 0 ≤ σ.1 14; omega) (by show σ.1 14 < 40; omega) (by decide)]
        simp only [Option.bind_some]
        rw [show (cOpen (zF σ 12 (a + 1)) 15 (σ.1 8 + 1)).1 8 = σ.1 8 from rfl, if_pos (show zin (σ.1 8 + 1) from ⟨by omega, by omega⟩)]
        refine pS_opn (k := 12) (num := σ.1 8 + 1) (p := a + 1) hS h19 (by decide) (by omega) (by simp) (by omega) (fun _ => ⟨by omega, by omega, rfl⟩) (fun z => absurd rfl z) (fun z => absurd z (by decide)) (fun _ => rfl) rfl (fun j j7 j8 j12 => ?_) rfl
        rw [zF_1, if_neg j8]
        obtain ⟨c4, c14, c15, c16, co⟩ := cOpen_1 (σ := zF σ 12 (a + 1)) (K := 15) (num := σ.1 8 + 1)
        obtain ⟨c4', c14', c15', c16', co'⟩ := cOpen_1 (σ := σ) (K := 15) (num := σ.1 8 + 1)
        show _ = (cOpen σ 15 (σ.1 8 + 1)).1 j
        by_cases z4 : j = 4
        · rw [z4, c4, c4']; rfl
        by_cases z14 : j = 14
        · rw [z14, c14, c14']; rfl
        by_cases z15 : j = 15
        · rw [z15, c15, c15']; rfl
        by_cases z16 : j = 16
        · rw [z16, c16, c16']; rfl
        rw [co j z4 z14 z15 z16, co' j z4 z14 z15 z16, zF_1, if_neg j12]
end OPR
