section OQ
variable {σ σ' μ μ' : z_S} {en fin lv ow gw kw : Int → Int} {ia : Int → Prop} {g g' : Nat → Int → Int} {r r' : Int}
theorem zpush_at {q w l : Int} : (zpush μ q w l).2 24 = zupd (μ.2 24) (μ.1 19).toNat q ∧ (zpush μ q w l).2 25 = zupd (μ.2 25) (μ.1 19).toNat w ∧ (zpush μ q w l).2 26 = zupd (μ.2 26) (μ.1 19).toNat l ∧ (zpush μ q w l).1 19 = μ.1 19 + 1 ∧
    (∀ j, j ≠ 24 → j ≠ 25 → j ≠ 26 → j ≠ 27 → (zpush μ q w l).2 j = μ.2 j) ∧ (∀ k, k ≠ 19 → (zpush μ q w l).1 k = μ.1 k) :=
  ⟨rfl, rfl, rfl, rfl, fun j h1 h2 h3 h4 => by show (if j = 24 then _ else if j = 25 then _ else if j = 26 then _ else if j = 27 then _ else μ.2 j) = _; rw [if_neg h1, if_neg h2, if_neg h3, if_neg h4], fun k h => if_neg h⟩
theorem zpush_fr {q w l : Int} : zfr [19] [24, 25, 26, 27] μ (zpush μ q w l) := ⟨fun k hk => zpush_at.2.2.2.2.2 k (by simpa using hk), fun j hj => by
  simp at hj
  exact zpush_at.2.2.2.2.1 j hj.1 hj.2.1 hj.2.2.1 hj.2.2.2⟩
theorem zpush_27 {q w l : Int} {i k : Nat} (hk : k < 42) (hp : 0 ≤ μ.1 19) : (zpush μ q w l).2 27 (42 * i + k) = if i = (μ.1 19).toNat then μ.2 17 k else μ.2 27 (42 * i + k) := by
  show (if 42 * (μ.1 19).toNat ≤ 42 * i + k ∧ 42 * i + k < 42 * (μ.1 19).toNat + 42 then μ.2 17 (42 * i + k - 42 * (μ.1 19).toNat) else μ.2 27 (42 * i + k)) = _
  by_cases e : i = (μ.1 19).toNat
  · rw [if_pos e, if_pos (by omega), show 42 * i + k - 42 * (μ.1 19).toNat = k by omega]
  · rw [if_neg e, if_neg (by omega)]
/-- an entry more -/
theorem rAll_push (hA : rAll σ μ en fin lv ow gw kw ia g r) (hr : rV μ r) {q p l : Int} (hl0 : 0 ≤ l) (hl2 : l ≤ 2) (hq : rV μ q) (hrq : rSub μ r q) (hqr : rSub μ q r') (hr' : rV μ r') (hlk : rLks σ μ en r) (hqr0 : rSub μ q r) (hnl : μ.1 19 ≤ μ.1 16 + g 3 q)
    (h1 : l = 1 → σ' = σ) (h2 : l ≠ 1 → σ' = zch σ p ∧ zpx σ p (g 0 q) ∧ g 4 q ≤ μ.1 11 ∧ zGR (σ.2 18) (μ.2 17) (μ.1 7) ∧ rLive σ μ en (σ.2 18) (μ.1 16) q ∧ σ.1 23 + 3 * g 2 q + zps (σ.2 18) 20 ≤ 4 * μ.1 16 + (if μ.2 18 q.toNat = 5 then -1 else 0)) :
    rAll σ' (zpush μ q (μ.1 11) l) en fin lv ow gw kw ia g r' := by
  obtain ⟨a1, a2, a3, a4, a5, a6⟩ := id hA
  obtain ⟨n1, n2, n3, n4, n5, n6, n7, n8⟩ := id a4
  obtain ⟨u24, u25, u26, u19, uo, uf⟩ := zpush_at (μ := μ) (q := q) (w := μ.1 11) (l := l)
  have hc : cutC σ' = cutC σ := by
    by_cases e : l = 1
    · rw [h1 e]
    · rw [(h2 e).1]; exact cutC_fr zch_fr (by simp) (by simp)
  have hm : cutM (zpush μ q (μ.1 11) l) = cutM μ := cutM_fr zpush_fr (by simp) (by simp)
  have ho : oAg (μ.1 18) μ (zpush μ q (μ.1 11) l) := fun j j1 j2 i _ => by rw [uo j (by omega) (by omega) (by omega) (by omega)]
  have h18 : (zpush μ q (μ.1 11) l).1 18 = μ.1 18 := uf 18 (by omega)
  have h16 : (zpush μ q (μ.1 11) l).1 16 = μ.1 16 := uf 16 (by omega)
  have h7 : (zpush μ q (μ.1 11) l).1 7 = μ.1 7 := uf 7 (by omega)
  have hcie : ∀ i : Nat, (i : Int) ≤ μ.1 19 → zci ((zpush μ q (μ.1 11) l).2 26) i = zci (μ.2 26) i := fun i hi => zci_eq fun j hj => by rw [u26, zupd_n (by omega)]
  have hfr : ∀ k, k ≠ 22 → σ'.1 k = σ.1 k := fun k hk => by
    by_cases e : l = 1
    · rw [h1 e]
    · rw [(h2 e).1]; exact zch_fr.1 k (by simp [hk])
  have hcat : ∀ t, zcat σ' t = zcat σ t := fun t => by
    by_cases e : l = 1
    · rw [h1 e]
    · rw [(h2 e).1]; exact zch_cat
  have h18' : σ'.2 18 = σ.2 18 := by
    by_cases e : l = 1
    · rw [h1 e]
    · rw [(h2 e).1]; exact zch_fr.2 18 (by simp)
  have hN2 : σ'.1 22 = (zci ((zpush μ q (μ.1 11) l).2 26) ((zpush μ q (μ.1 11) l).1 19).toNat : Nat) := by
    rw [u19, show (μ.1 19 + 1).toNat = (μ.1 19).toNat + 1 by omega]
    show σ'.1 22 = ((if (zpush μ q (μ.1 11) l).2 26 (μ.1 19).toNat = 1 then zci ((zpush μ q (μ.1 11) l).2 26) (μ.1 19).toNat else zci ((zpush μ q (μ.1 11) l).2 26) (μ.1 19).toNat + 1 : Nat) : Int)
    rw [hcie _ (by omega), u26, zupd_s]
    by_cases e : l = 1
    · rw [if_pos e, h1 e]; exact n8
    · rw [if_neg e, (h2 e).1]
      show σ.1 22 + 1 = _
      rw [n8]; omega
  refine ⟨pAll_mv hc hm a1, ?_, ?_, ⟨by rw [hfr 27 (by omega), h16]; exact n1, by rw [h16]; exact n2, by rw [h16, uf 17 (by omega)]; exact n3, by rw [hfr 25 (by omega), uf 17 (by omega)]; exact n4, by rw [uf 17 (by omega)]; exact n5, by rw [u19]; omega, by rw [h18]; exact n7, hN2⟩, fun q2 q0 q1 => ?_, fun i hi => ?_⟩
  · obtain ⟨t1, t2, t3, t4, t5, t6, t7, t8, t9⟩ := a2
    have e17 : σ'.2 17 = σ.2 17 := by
      by_cases e : l = 1
      · rw [h1 e]
      · rw [(h2 e).1]; exact zch_fr.2 17 (by simp)
    unfold zTx
    rw [hfr 24 (by omega), hfr 26 (by omega), hfr 9 (by omega), hfr 10 (by omega), e17, uf 11 (by omega), uf 7 (by omega), uf 3 (by omega), uf 4 (by omega), uo 2 (by omega) (by omega) (by omega) (by omega)]
    exact ⟨t1, t2, t3, t4, t5, t6, t7, t8, t9⟩
  · by_cases e : l = 1
    · rw [h1 e]; exact a3
    · rw [(h2 e).1]; exact zch_I a3
  · exact rOK_ag hc hm h7 ho (fun _ _ _ _ => rfl) a5 q0 (by rw [h18] at q1; exact q1)
  · rw [u19] at hi
    by_cases e : (i : Int) = μ.1 19
    · have ei : (μ.1 19).toNat = i := by omega
      have e24 : (zpush μ q (μ.1 11) l).2 24 i = q := by rw [u24, ei, zupd_s]
      have e25 : (zpush μ q (μ.1 11) l).2 25 i = μ.1 11 := by rw [u25, ei, zupd_s]
      have e26 : (zpush μ q (μ.1 11) l).2 26 i = l := by rw [u26, ei, zupd_s]
      refine ⟨by rw [e24, h18, uo 18 (by omega) (by omega) (by omega) (by omega)]; exact hq, by rw [e26]; exact hl0, by rw [e26]; exact hl2, by rw [e24, h16]; omega, ?_, fun k => ?_, fun hl => ?_⟩
      · rw [e24, if_neg (by rw [u19]; omega)]
        exact rSub_ag ho a5 hq hr' hqr
      · rw [e24, uo 18 (by omega) (by omega) (by omega) (by omega), uo 20 (by omega) (by omega) (by omega) (by omega), uo 22 (by omega) (by omega) (by omega) (by omega)]
        intro hk
        have := (rLks_sub hqr0 hlk) k hk
        omega
      · rw [e26] at hl
        obtain ⟨b1, b2, b3, b4, b5, b6⟩ := h2 hl
        have ec : zci ((zpush μ q (μ.1 11) l).2 26) i = (σ.1 22).toNat := by rw [hcie i (by omega), n8, ei]; omega
        have x19 : σ'.2 19 (σ.1 22).toNat = p := by rw [b1]; exact zupd_s _ _ _
        have x20 : σ'.2 20 (σ.1 22).toNat = σ.1 24 := by rw [b1]; exact zupd_s _ _ _
        have x21 : σ'.2 21 (σ.1 22).toNat = σ.1 23 := by rw [b1]; exact zupd_s _ _ _
        have y1 : σ'.2 1 = σ.2 1 := by have := congrArg (fun z : z_S => z.2 1) hc; exact this
        have y2 : σ'.2 2 = σ.2 2 := by have := congrArg (fun z : z_S => z.2 2) hc; exact this
        have xc : zcat σ' (σ.1 23) = σ.2 18 := by
          rw [hcat]; exact zrs_at
        rw [ec, x19, x20, x21, xc, e24, e25, h7, h16, uo 18 (by omega) (by omega) (by omega) (by omega)]
        refine ⟨?_, a2.1, b3, by have := a2.2.2.2.2.1; have := a2.1; omega, by have := a2.2.2.2.2.2.1; have := a2.1; have := a2.2.1; omega, ?_, rLive_ag hc hm ho a5 hq (Int.le_refl _) b5, b6⟩
        · have y4 : σ'.1 4 = σ.1 4 := by have := congrArg (fun z : z_S => z.1 4) hc; exact this
          unfold zpx at b2 ⊢; rw [y1, y2, y4]; exact b2
        · intro k hk
          have hh := b4 k hk
          dsimp only
          rw [zpush_27 (by omega) n6, zpush_27 (by omega) n6, if_pos ei.symm, if_pos ei.symm]
          exact hh
    · have he := a6 i (by omega)
      refine rEnt_ag he hc hm ho (fun _ _ _ _ => rfl) a5 (by rw [h18]; omega) (by rw [h16]; omega) h7 (by rw [u24, zupd_n (by omega)]) (by rw [u25, zupd_n (by omega)]) (by rw [u26, zupd_n (by omega)]) (fun k hk => by rw [zpush_27 hk n6, if_neg (by omega)]) (hcie i (by omega)) (fun hl => ?_) ?_
      · by_cases e2 : l = 1
        · rw [h1 e2]; exact ⟨rfl, rfl, rfl, rfl⟩
        · have hlt := zci_lt (μ.2 26) (show i < (μ.1 19).toNat by omega) hl
          have hne : zci (μ.2 26) i ≠ (σ.1 22).toNat := by omega
          refine ⟨?_, ?_, ?_, hcat _⟩
          · rw [(h2 e2).1]; exact zupd_n hne
          · rw [(h2 e2).1]; exact zupd_n hne
          · rw [(h2 e2).1]; exact zupd_n hne
      · rw [u19, if_pos (by omega)]
        by_cases e2 : (i : Int) + 1 = μ.1 19
        · obtain ⟨s1, s2⟩ := rAll_top hA e2
          rw [u24, show i + 1 = (μ.1 19).toNat by omega, zupd_s]
          exact rSub_ag ho a5 s2 hq (rSub_tr s1 hrq)
        · have hs := he.2.2.2.2.1
          rw [if_pos (by omega)] at hs
          rw [u24, zupd_n (by omega)]
          exact rSub_ag ho a5 he.1 (a6 (i + 1) (by omega)).1 hs
/-- the pile cut off -/
theorem rAll_cut (hA : rAll σ μ en fin lv ow gw kw ia g r) {i : Nat} (hi : (i : Int) ≤ μ.1 19) (hc : cutC σ' = cutC σ) (hm : cutM μ' = cutM μ) (h2 : ∀ j, 18 ≤ j → j ≤ 27 → μ'.2 j = μ.2 j) (h18 : μ'.1 18 = μ.1 18) (h16 : μ'.1 16 = μ.1 16) (h17 : μ'.1 17 = μ.1 17) (h7 : μ'.1 7 = μ.1 7) (h19 : μ'.1 19 = i)
    (hcl : σ'.2 19 = σ.2 19 ∧ σ'.2 20 = σ.2 20 ∧ σ'.2 21 = σ.2 21) (h22 : σ'.1 22 = (zci (μ.2 26) i : Nat)) (h27 : σ'.1 27 = σ.1 27) (h25 : σ'.1 25 = σ.1 25) (hcat : ∀ t, 0 ≤ t → t ≤ σ'.1 23 → zcat σ' t = zcat σ t) (hCI : zCI σ') (hTx : zTx σ' μ')
    (hsub : ∀ j : Nat, j + 1 = i → rSub μ (μ.2 24 j) r') : rAll σ' μ' en fin lv ow gw kw ia g r' := by
  obtain ⟨a1, a2, a3, a4, a5, a6⟩ := id hA
  obtain ⟨n1, n2, n3, n4, n5, n6, n7, n8⟩ := id a4
  have ho : oAg (μ.1 18) μ μ' := fun j j1 j2 k _ => by rw [h2 j j1 (by omega)]
  have hsame : ∀ a b, rSub μ a b → rSub μ' a b := fun a b h => by
    unfold rSub at h ⊢
    rw [h2 18 (by omega) (by omega), h2 20 (by omega) (by omega)]; exact h
  refine ⟨pAll_mv hc hm a1, hTx, hCI, ⟨by rw [h27, h16]; exact n1, by rw [h16]; exact n2, by rw [h16, h17]; exact n3, by rw [h25, h17]; exact n4, by rw [h17]; exact n5, by omega, by rw [h18]; exact n7, ?_⟩, fun q q0 q1 => rOK_ag hc hm h7 ho (fun _ _ _ _ => rfl) a5 q0 (by rw [h18] at q1; exact q1), fun j hj => ?_⟩
  · rw [h22, h2 26 (by omega) (by omega), h19]; rfl
  · have he := a6 j (by omega)
    refine rEnt_ag he hc hm ho (fun _ _ _ _ => rfl) a5 (by omega) (by omega) h7 (by rw [h2 24 (by omega) (by omega)]) (by rw [h2 25 (by omega) (by omega)]) (by rw [h2 26 (by omega) (by omega)]) (fun k _ => by rw [h2 27 (by omega) (by omega)]) (by rw [h2 26 (by omega) (by omega)]) (fun hl => ?_) ?_
    · have hlt := zci_lt (μ.2 26) (show j < i by omega) hl
      have hb := hCI.2.2.2.2.1 (zci (μ.2 26) j) (by rw [h22]; omega)
      rw [hcl.2.2] at hb
      exact ⟨by rw [hcl.1], by rw [hcl.2.1], by rw [hcl.2.2], hcat _ hb.1 hb.2⟩
    · by_cases e : (j : Int) + 1 < μ'.1 19
      · rw [if_pos e, h2 24 (by omega) (by omega)]
        have hs := he.2.2.2.2.1
        rw [if_pos (by omega)] at hs
        exact hsame _ _ hs
      · rw [if_neg e]
        exact hsame _ _ (hsub j (by omega))
end OQ
