/-- what reading comes to -/
def rR (σ μ : z_S) (X Y : Option (Int × z_S)) : Prop := ∃ v y σ' μ', X = some (v, σ') ∧ Y = some (y, μ') ∧ fPC σ σ' ∧ fPM μ μ' ∧ μ'.1 12 = v ∧
  ((v = -1 ∧ ∃ (en fin lv ow gw kw : Int → Int) (ia : Int → Prop), pAll σ' μ' en fin lv ow gw kw ia) ∨ 0 ≤ v)
section LP
variable {N : Nat} {σ μ : z_S} {G : Nat → Int → Int}
theorem rR_tr {σ1 μ1 : z_S} {X Y : Option (Int × z_S)} (h : rR σ1 μ1 X Y) (h1 : fPC σ σ1) (h2 : fPM μ μ1) : rR σ μ X Y := by
  obtain ⟨v, y, σ', μ', e1, e2, e3, e4, e5⟩ := h
  exact ⟨v, y, σ', μ', e1, e2, zfr_tr h1 e3, zfr_tr h2 e4, e5⟩
theorem link_t {a b : Int} : ∃ σ', zProgram_link N a b σ = some (0, σ') ∧ zfr [] [2] σ σ' := by
  by_cases c : 0 ≤ a ∧ a < 602
  · exact ⟨_, cLink_e c.1 c.2, zfr_A zfr_rf (by simp)⟩
  · refine ⟨σ, ?_, zfr_rf⟩
    rw [zProgram_link_u, zRows_write_u]
    by_cases c0 : a < 0
    · rw [if_pos c0]; rfl
    · rw [if_neg c0, if_pos (by decide), if_pos (show ((lenC 2 : Nat) : Int) ≤ a by show (602 : Int) ≤ a; omega)]; rfl
theorem zb140 : ∃ σ', zReader_readPattern_b140 N σ = some (σ.1 13, σ') ∧ fPC σ σ' := by
  obtain ⟨σ', e1, e2⟩ := link_t (N := N) (σ := σ) (a := σ.1 16) (b := 0)
  refine ⟨σ', ?_, zfr_up e2 (by simp) (by simp)⟩
  unfold zReader_readPattern_b140
  rw [e1]
  show some (σ'.1 13, σ') = _
  rw [e2.1 13 (by simp)]
theorem zStop (hN : 2000 ≤ N) (h1 : 0 ≤ σ.1 13) (h2 : μ.1 12 = σ.1 13) (h3 : 0 ≤ μ.1 8) (h4 : μ.1 8 ≤ 1300) : rR σ μ (zReader_readPattern_b103 N σ) (zMod_read_b60 N μ) := by
  obtain ⟨σ', e1, e2⟩ := zb140 (N := N) (σ := σ)
  refine ⟨σ.1 13, 0, σ', μ, ?_, ?_, e2, zfr_rf, h2, Or.inr h1⟩
  · unfold zReader_readPattern_b103 zReader_readPattern_b125
    rw [if_pos h1, if_pos h1, e1]
  · have hl : zMod_read_l77 N N 0 μ = some (0, μ) := mGw h4 (by omega) N 0 (by omega) (by omega) h3
    unfold zMod_read_b60 zMod_read_b67 zMod_read_b75
    rw [zfb (by omega)]
    simp only [Option.bind_some]
    rw [hl, ite_self]
theorem zLast (hN : 2000 ≤ N) {b : Int} (hS : pS σ μ G b 0) : rR σ μ (zReader_readPattern_b103 N σ) (zMod_read_b60 N μ) := by
  obtain ⟨hx, hn, hl, ⟨ha, hma, h0, h1⟩, ⟨hs0, hw⟩, ⟨h5, hpm⟩, hB1, hB2, hB3, hB4, hB5⟩ := id hS
  have h200 := hx.2.2.1
  obtain ⟨N1, N2, N3, N4, N5, N6, N7, N8⟩ := id hn.2.2.2.2.2
  obtain ⟨⟨d0, d1, d2⟩, -⟩ := id hl
  unfold zReader_readPattern_b103 zReader_readPattern_b110 zMod_read_b60
  rw [if_neg (by omega)]
  by_cases c : μ.1 14 ≤ 0
  · rw [if_pos (show σ.1 14 ≤ 0 by omega), if_pos c]
    unfold zReader_readPattern_b125 zReader_readPattern_b132 zMod_read_b75
    rw [if_neg (by omega)]
    rcases zToo hN hn (by omega) (by omega) (by omega) with ⟨a1, a2, a3⟩ | ⟨v, v0, a2, a3⟩
    · rw [a2, a3]
      simp only [Option.bind_some]
      rw [zF_i hs0]
      obtain ⟨t1, t2, -⟩ := tail_bd hn hl
      unfold zReader_readPattern_b140
      rw [cLink_e t1 (by omega)]
      exact ⟨-1, 0, zA σ 2 (σ.1 16).toNat 0, μ, by simp only [Option.bind_some]; rw [show (zA σ 2 (σ.1 16).toNat 0).1 13 = -1 from hs0], rfl, zfr_A zfr_rf (by simp), zfr_rf, hw, Or.inl ⟨rfl, _, _, _, _, _, _, _, pAll_fin hS (by omega) a1⟩⟩
    · rw [a2, a3]
      simp only [Option.bind_some]
      obtain ⟨σ', e1, e2⟩ := zb140 (N := N) (σ := zF σ 13 v)
      exact ⟨v, 0, σ', _, e1, rfl, zfr_tr (zfr_F zfr_rf (by simp)) e2, zfr_F zfr_rf (by simp), rfl, Or.inr v0⟩
  · rw [if_neg (show ¬ σ.1 14 ≤ 0 by omega), if_neg c]
    unfold zReader_readPattern_b117 zReader_readPattern_b125 zMod_read_b67 zMod_read_b75
    have h13 : (zF σ 13 (σ.1 11)).1 13 = μ.1 2 := hx.1
    rw [if_pos (show (0 : Int) ≤ (zF σ 13 (σ.1 11)).1 13 by rw [h13]; exact hx.2.1), zfa (by omega)]
    simp only [Option.bind_some]
    obtain ⟨σ', e1, e2⟩ := zb140 (N := N) (σ := zF σ 13 (σ.1 11))
    rw [h13] at e1
    exact ⟨μ.1 2, 0, σ', _, e1, mGw (μ := zF μ 12 (μ.1 2)) (by show μ.1 8 ≤ 1300; omega) hx.2.1 N 0 (by omega) (by show μ.1 8 + 1 ≤ _; omega) (by show 0 ≤ μ.1 8; omega), zfr_tr (zfr_F zfr_rf (by simp)) e2, zfr_F zfr_rf (by simp), rfl, Or.inr hx.2.1⟩
theorem b74_cT {k : Int → z_S → Option (Int × z_S)} {x : Int} : zReader_readPattern_b74 N k x σ = (cT N σ).bind fun q => zReader_readPattern_b97 N k x q.2 := by
  unfold zReader_readPattern_b74 zReader_readPattern_b85 zReader_readPattern_b93 cT
  cases zReader_readTerm N σ with
  | none => rfl
  | some q =>
    simp only [Option.bind_some]
    by_cases c : (0 : Int) ≤ q.2.1 13
    · rw [if_pos c, if_pos c]; rfl
    · rw [if_neg c, if_neg c]
      by_cases d : q.2.1 19 = -1
      · rw [if_pos d, if_pos d]; rfl
      · rw [if_neg d, if_neg d]
        cases zReader_appendAtom N q.2 <;> rfl
theorem zLoop (hN : 2000 ≤ N) : ∀ (k : Nat) (n n2 : Nat) (x : Int) (σ μ : z_S) (G : Nat → Int → Int) (b : Int), pS σ μ G b 0 → σ.1 19 = -1 → μ.1 2 - b ≤ k → 0 ≤ x → x ≤ b → k + 2 ≤ n → k + 2 ≤ n2 → rR σ μ (zReader_readPattern_l49 N n x σ) (zMod_read_l35 N n2 μ) := by
  intro k
  induction k with
  | zero =>
    intro n n2 x σ μ G b hS h19 hk x0 x1 hn hn2
    obtain ⟨n, rfl⟩ : ∃ z, n = z + 1 := ⟨n - 1, by omega⟩
    obtain ⟨n2, rfl⟩ : ∃ z, n2 = z + 1 := ⟨n2 - 1, by omega⟩
    have hz := hS.2.2.2.1
    have hx := hS.1.1
    show rR σ μ (zReader_readPattern_b49 N (zReader_readPattern_l49 N n) x σ) (zMod_read_b35 N (zMod_read_l35 N n2) μ)
    unfold zReader_readPattern_b49 zReader_readPattern_b56 zMod_read_b35
    rw [if_pos (show σ.1 11 ≤ σ.1 12 by omega), ite_self, if_pos (show μ.1 2 ≤ μ.1 11 by omega)]
    exact zLast hN hS
  | succ k ih =>
    intro n n2 x σ μ G b hS h19 hk x0 x1 hn hn2
    obtain ⟨n, rfl⟩ : ∃ z, n = z + 1 := ⟨n - 1, by omega⟩
    obtain ⟨n2, rfl⟩ : ∃ z, n2 = z + 1 := ⟨n2 - 1, by omega⟩
    have hz := hS.2.2.2.1
    have hx := hS.1.1
    have hw := hS.2.2.2.2.1
    have h200 := hS.1.2.2.1
    show rR σ μ (zReader_readPattern_b49 N (zReader_readPattern_l49 N n) x σ) (zMod_read_b35 N (zMod_read_l35 N n2) μ)
    unfold zReader_readPattern_b49 zReader_readPattern_b56 zMod_read_b35
    by_cases c : μ.1 2 ≤ b
    · rw [if_pos (show σ.1 11 ≤ σ.1 12 by omega), ite_self, if_pos (show μ.1 2 ≤ μ.1 11 by omega)]
      exact zLast hN hS
    · rw [if_neg (show ¬ (200 : Int) ≤ x by omega), if_neg (show ¬ σ.1 11 ≤ σ.1 12 by omega), if_neg (show ¬ μ.1 2 ≤ μ.1 11 by omega)]
      unfold zReader_readPattern_b67 zMod_read_b46
      rw [if_neg (show ¬ (0 : Int) ≤ σ.1 13 by omega), if_neg (show ¬ (0 : Int) ≤ μ.1 12 by omega), b74_cT]
      unfold zMod_read_b53
      obtain ⟨y1, y2, σ', μ', e1, e2, e3, e4, e5⟩ := zTerm (N := N) (by omega) hS h19 (by omega)
      rw [e1, e2]
      simp only [Option.bind_some]
      unfold zReader_readPattern_b97
      rw [if_pos (show zin (x + 1) from ⟨by omega, by omega⟩)]
      refine rR_tr ?_ e3 e4
      rcases e5 with ⟨G', b', f1, f2, f3⟩ | ⟨f1, f2, f3, f4, f5⟩
      · exact ih n n2 (x + 1) σ' μ' G' b' f1 f3 (by rw [e4.1 2 (by simp)]; omega) (by omega) (by omega) (by omega) (by omega)
      · obtain ⟨n, rfl⟩ : ∃ z, n = z + 1 := ⟨n - 1, by omega⟩
        obtain ⟨n2, rfl⟩ : ∃ z, n2 = z + 1 := ⟨n2 - 1, by omega⟩
        show rR σ' μ' (zReader_readPattern_b49 N (zReader_readPattern_l49 N n) (x + 1) σ') (zMod_read_b35 N (zMod_read_l35 N n2) μ')
        unfold zReader_readPattern_b49 zReader_readPattern_b56 zReader_readPattern_b67 zMod_read_b35 zMod_read_b46
        rw [if_pos f1, ite_self, ite_self, if_pos (show (0 : Int) ≤ μ'.1 12 by omega), ite_self]
        exact zStop hN f1 f2 f3 f4
end LP
