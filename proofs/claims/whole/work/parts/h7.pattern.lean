section JP
variable {N : Nat} {σ μ : z_S}
theorem mFin : zMod_pattern_b101 N μ = if (0 : Int) ≤ μ.1 6 then some (0, zF (zF μ 5 0) 0 1) else some (μ.1 9, zF (zF μ 5 1) 0 0) := by
  unfold zMod_pattern_b101
  by_cases c : (0 : Int) ≤ μ.1 6
  · rw [if_pos c, if_pos c]
    unfold zMod_pattern_b113 zMod_pattern_b114 zMod_pattern_b129 zMod_pattern_b130 zMod_pattern_b147 zMod_pattern_b148
    rw [if_pos zB_0, if_pos rfl, if_pos (by rfl)]
  · rw [if_neg c, if_neg c]
    unfold zMod_pattern_b109 zMod_pattern_b114 zMod_pattern_b125 zMod_pattern_b130 zMod_pattern_b140 zMod_pattern_b148
    rw [if_pos zB_1, if_neg (by decide), if_neg (show ¬ (zF μ 5 1).1 5 = 0 by show ¬ (1 : Int) = 0; decide)]
    rfl
theorem mCp {x1 x2 : Int} : ∀ (n : Nat) (j : Int) (μ : z_S), 0 ≤ j → j ≤ μ.1 2 → μ.1 2 ≤ 200 → μ.1 2 - j + 1 ≤ n → (∀ i : Nat, (i : Int) < j → μ.2 1 i = μ.2 0 i) → ∃ μ', zMod_pattern_l53 N n x1 x2 j μ = zMod_pattern_b79 N x1 x2 μ' ∧ zfr [] [1] μ μ' ∧ ∀ i : Nat, (i : Int) < μ.1 2 → μ'.2 1 i = μ.2 0 i := by
  intro n
  induction n with
  | zero => intro j μ h0 h1 h2 h3; omega
  | succ n ih =>
    intro j μ h0 h1 h2 h3 h4
    show ∃ μ', zMod_pattern_b53 N (zMod_pattern_l53 N n) x1 x2 j μ = _ ∧ _
    unfold zMod_pattern_b53
    by_cases c : μ.1 2 ≤ j
    · rw [if_pos c]
      exact ⟨μ, rfl, zfr_rf, fun i hi => h4 i (by omega)⟩
    · rw [if_neg c]
      unfold zMod_pattern_b61
      rw [if_pos (show zIn j 600 from ⟨h0, by omega⟩), if_pos (show zIn j 200 from ⟨h0, by omega⟩), if_pos (show zin (j + 1) from ⟨by omega, by omega⟩)]
      obtain ⟨μ', e1, e2, e3⟩ := ih (j + 1) (zA μ 1 j.toNat (μ.2 0 j.toNat)) (by omega) (by show j + 1 ≤ μ.1 2; omega) h2 (by show μ.1 2 - (j + 1) + 1 ≤ _; omega) (fun i hi => by
        show zupd (μ.2 1) j.toNat (μ.2 0 j.toNat) i = μ.2 0 i
        by_cases e : i = j.toNat
        · rw [e, zupd_s]
        · rw [zupd_n e]; exact h4 i (by omega))
      exact ⟨μ', e1, zfr_tr (zfr_A zfr_rf (by simp)) e2, e3⟩
theorem pAll_q {x y v w : Int} {en fin lv ow gw kw : Int → Int} {ia : Int → Prop} (h : pAll σ μ en fin lv ow gw kw ia) : pAll (zF (zF (zF (zF σ 1 v) 2 w) 9 x) 10 y) μ en fin lv ow gw kw ia := h
theorem J_pattern (h : zJ σ μ) (x1 x2 : Int) (hx1 : zB x1) (hx2 : zB x2) : ∃ N r σ' M v μ', zDesk_pattern N x1 x2 σ = some (r, σ') ∧ zMod_pattern M x1 x2 μ = some (v, μ') ∧ zAns r v (μ'.1 0) ∧ r ≠ .inr true ∧ zJ σ' μ' := by
  obtain ⟨a1, a2, a3, a4, a5, a6, a7, a8, a9⟩ := id h
  refine ⟨5000, ?_⟩
  by_cases c : σ.1 0 ≤ 200
  · have hD : zDesk_pattern 5000 x1 x2 σ = zDesk_pattern_b29 5000 x1 x2 (σ.1 0) (zF (zF σ 0 0) 3 0) := by
      show zDesk_pattern_b0 5000 x1 x2 σ = _
      unfold zDesk_pattern_b0
      rw [if_pos c]
    have hM : zMod_pattern 5000 x1 x2 μ = zMod_pattern_l53 5000 5000 x1 x2 0 (zF (zF (zF (zF (zF μ 15 0) 5 0) 2 (μ.1 1)) 1 0) 6 (-1)) := by
      show zMod_pattern_b0 5000 x1 x2 μ = _
      unfold zMod_pattern_b0 zMod_pattern_b40 zMod_pattern_b41 zMod_pattern_b51
      rw [if_pos (by omega), if_neg (by decide)]
    obtain ⟨μ2, e1, e2, e3⟩ := mCp (N := 5000) (x1 := x1) (x2 := x2) 5000 0 (zF (zF (zF (zF (zF μ 15 0) 5 0) 2 (μ.1 1)) 1 0) 6 (-1)) (by omega) (by show 0 ≤ μ.1 1; omega) (by show μ.1 1 ≤ 200; omega) (by show μ.1 1 - 0 + 1 ≤ 5000; omega) (fun i hi => by omega)
    have s2 : μ2.1 2 = μ.1 1 := e2.1 2 (by simp)
    have e3 : ∀ i : Nat, (i : Int) < μ.1 1 → μ2.2 1 i = μ.2 0 i := e3
    have hfm : ∀ j, j ≠ 15 → j ≠ 5 → j ≠ 2 → j ≠ 1 → j ≠ 6 → μ2.1 j = μ.1 j := fun j j15 j5 j2 j1 j6 => by
      rw [e2.1 j (by simp)]
      show (if j = 6 then _ else if j = 1 then _ else if j = 2 then _ else if j = 5 then _ else if j = 15 then _ else μ.1 j) = _
      rw [if_neg j6, if_neg j1, if_neg j2, if_neg j5, if_neg j15]
    have hf2 : ∀ j, j ≠ 1 → μ2.2 j = μ.2 j := fun j hj => by rw [e2.2 j (by simp; exact hj)]; rfl
    have m1 : μ2.1 1 = 0 := e2.1 1 (by simp)
    have m15 : μ2.1 15 = 0 := e2.1 15 (by simp)
    obtain ⟨v, y, σ3, μ3, r1, r2, r3, r4, r5, r6⟩ := zRead (N := 5000) (σ := zF (zF σ 0 0) 3 0) (μ := zF (zF μ2 3 x1) 4 x2) (x := σ.1 0) (by omega) (by show σ.1 0 = μ2.1 2; omega) (by show 0 ≤ μ2.1 2; omega) (by show μ2.1 2 ≤ 200; omega) (fun i hi => by
      have hi : (i : Int) < μ2.1 2 := hi
      show σ.2 0 i = μ2.2 1 i ∧ 0 ≤ μ2.2 1 i ∧ μ2.2 1 i ≤ 65535
      rw [e3 i (by omega)]; exact a1.2.2.2 i)
    have hM2 : zMod_pattern 5000 x1 x2 μ = zMod_pattern_b101 5000 (zF μ3 6 v) := by
      rw [hM, e1]
      unfold zMod_pattern_b79
      rw [if_pos hx1, if_pos hx2, r2]
      simp only [Option.bind_some]
      rw [r5]
    rw [mFin] at hM2
    have hD2 : zDesk_pattern 5000 x1 x2 σ = zDesk_pattern_b37 5000 x1 x2 v σ3 := by
      rw [hD]
      unfold zDesk_pattern_b29
      rw [r1]
      rfl
    -- what is kept
    have K0 : σ3.1 0 = 0 := r3.1 0 (by simp)
    have K3 : σ3.1 3 = 0 := r3.1 3 (by simp)
    have K26 : σ3.1 26 = σ.1 26 := r3.1 26 (by simp)
    have K27 : σ3.1 27 = σ.1 27 := r3.1 27 (by simp)
    have A0 : σ3.2 0 = σ.2 0 := r3.2 0 (by simp)
    have A17 : σ3.2 17 = σ.2 17 := r3.2 17 (by simp)
    have A18 : σ3.2 18 = σ.2 18 := r3.2 18 (by simp)
    have M1 : μ3.1 1 = 0 := (r4.1 1 (by simp)).trans m1
    have M15 : μ3.1 15 = 0 := (r4.1 15 (by simp)).trans m15
    have M7 : μ3.1 7 = μ.1 7 := (r4.1 7 (by simp)).trans (hfm 7 (by omega) (by omega) (by omega) (by omega) (by omega))
    have M16 : μ3.1 16 = μ.1 16 := (r4.1 16 (by simp)).trans (hfm 16 (by omega) (by omega) (by omega) (by omega) (by omega))
    have M3 : μ3.1 3 = x1 := r4.1 3 (by simp)
    have M4 : μ3.1 4 = x2 := r4.1 4 (by simp)
    have B0 : μ3.2 0 = μ.2 0 := (r4.2 0 (by simp)).trans (hf2 0 (by omega))
    have B2 : μ3.2 2 = μ.2 2 := (r4.2 2 (by simp)).trans (hf2 2 (by omega))
    have hJ : ∀ (σ' μ' : z_S), σ'.1 0 = 0 → μ'.1 1 = 0 → σ'.1 1 = v → μ'.1 6 = v → σ'.1 3 = 0 → μ'.1 15 = 0 → σ'.1 26 = σ.1 26 → μ'.1 7 = μ.1 7 → σ'.1 27 = σ.1 27 → μ'.1 16 = μ.1 16 → σ'.2 0 = σ.2 0 → σ'.2 17 = σ.2 17 → σ'.2 18 = σ.2 18 → μ'.2 0 = μ.2 0 → μ'.2 2 = μ.2 2 → σ'.1 2 = μ'.1 5 → zB (σ'.1 2) → (σ'.1 2 = 1 → pProg σ' μ') → zJ σ' μ' := fun σ' μ' p1 p2 p3 p4 p5 p6 p7 p8 p9 p10 p11 p12 p13 p14 p15 p16 p17 p18 => by
      refine ⟨⟨by omega, by omega, by omega, fun i => ?_⟩, by omega, ⟨p16, p17⟩, ⟨by omega, by rw [p5]; exact zB_0⟩, ⟨by have := a5.1; omega, by have := a5.2.1; omega, by have := a5.2.2.1; omega, fun i => ?_⟩, by omega, fun i hi => ?_, p18, fun z => by omega⟩
      · rw [p11, p14]; exact a1.2.2.2 i
      · rw [p12, p15]; exact a5.2.2.2 i
      · rw [p13]; exact a7 i hi
    rcases r6 with ⟨v1, en, fin, lv, ow, gw, kw, ia, hP⟩ | v0
    · rw [if_neg (show ¬ (0 : Int) ≤ (zF μ3 6 v).1 6 by show ¬ (0 : Int) ≤ v; omega)] at hM2
      have hD3 : zDesk_pattern 5000 x1 x2 σ = some (.inl (σ3.1 8), zF (zF (zF (zF σ3 1 v) 2 1) 9 x1) 10 x2) := by
        rw [hD2]
        unfold zDesk_pattern_b37 zDesk_pattern_b48 zDesk_pattern_b53 zDesk_pattern_b73
        rw [if_neg (by omega), if_pos zB_1, if_neg (by decide), if_pos hx1, if_pos hx2]
        rfl
      have h89 : σ3.1 8 = μ3.1 9 := hP.1.2.2.2.2.1
      refine ⟨_, _, 5000, _, _, hD3, hM2, ⟨rfl, fun w e => ?_⟩, (fun z => by cases z), hJ _ _ K0 M1 rfl rfl K3 M15 K26 M7 K27 M16 A0 A17 A18 B0 B2 rfl zB_1 (fun _ => ⟨⟨M3.symm, hx1⟩, ⟨M4.symm, hx2⟩, en, fin, lv, ow, gw, kw, ia, ?_⟩)⟩
      · cases e; exact h89
      · exact pAll_mv (σ := zF (zF (zF (zF σ3 1 v) 2 1) 9 x1) 10 x2) (μ := μ3) rfl (cutM_fr (zfr_F (zfr_F (zfr_F (ks := [0, 5, 6]) (js := []) zfr_rf (by simp)) (by simp)) (by simp)) (by simp) (by simp)) (pAll_q hP)
    · rw [if_pos (show (0 : Int) ≤ (zF μ3 6 v).1 6 from v0)] at hM2
      have hD3 : zDesk_pattern 5000 x1 x2 σ = some (.inr false, zF (zF σ3 1 v) 2 0) := by
        rw [hD2]
        unfold zDesk_pattern_b37 zDesk_pattern_b52 zDesk_pattern_b53 zDesk_pattern_b63
        rw [if_pos v0, if_pos zB_0, if_pos rfl]
      exact ⟨_, _, 5000, _, _, hD3, hM2, ⟨rfl, fun w e => by cases e⟩, (fun z => by cases z), hJ _ _ K0 M1 rfl rfl K3 M15 K26 M7 K27 M16 A0 A17 A18 B0 B2 rfl zB_0 (fun z => absurd z (by show ¬ (0 : Int) = 1; decide))⟩
  · have hD : zDesk_pattern 5000 x1 x2 σ = some (.inr false, zF (zF (zF (zF σ 0 0) 3 0) 1 200) 2 0) := by
      show zDesk_pattern_b0 5000 x1 x2 σ = _
      unfold zDesk_pattern_b0 zDesk_pattern_b23 zDesk_pattern_b37 zDesk_pattern_b52 zDesk_pattern_b53 zDesk_pattern_b63
      rw [if_neg c, if_pos (by decide), if_pos zB_0, if_pos rfl]
    have hM : zMod_pattern 5000 x1 x2 μ = some (0, zF (zF (zF (zF (zF (zF (zF μ 15 0) 5 0) 2 (μ.1 1)) 1 0) 6 200) 5 0) 0 1) := by
      show zMod_pattern_b0 5000 x1 x2 μ = _
      unfold zMod_pattern_b0 zMod_pattern_b34 zMod_pattern_b41
      rw [if_neg (by omega), if_pos (by decide), mFin]
      exact if_pos (show (0 : Int) ≤ 200 by decide)
    refine ⟨_, _, 5000, _, _, hD, hM, ⟨rfl, fun w e => by cases e⟩, (fun z => by cases z), ⟨rfl, by show (0 : Int) ≤ 0; decide, by show (0 : Int) ≤ 600; decide, a1.2.2.2⟩, rfl, ⟨rfl, zB_0⟩, ⟨rfl, zB_0⟩, a5, a6, a7, fun z => absurd z (by show ¬ (0 : Int) = 1; decide), fun z => absurd z (by show ¬ (0 : Int) = 1; decide)⟩
theorem z_all : z_Sim zJ := ⟨zJ_0, fun _ _ _ _ h => ⟨fun a b _ => J_put h a b, fun a b ha hb => J_pattern h a b ha hb, J_place h, J_text h, fun a b _ _ => J_match h a b, fun a b _ _ => J_find h a b, fun a b _ hb => J_group h a b hb, J_steps h⟩⟩
end JP
