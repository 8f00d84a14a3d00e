section OP
variable {σ σ' μ μ' : z_S} {en fin lv ow gw kw : Int → Int} {ia : Int → Prop} {g g' : Nat → Int → Int} {r r' : Int}
theorem rEnt_ag {i : Nat} (h : rEnt σ μ en g r i) (hc : cutC σ' = cutC σ) (hm : cutM μ' = cutM μ) (ho : oAg (μ.1 18) μ μ') (hg : ∀ j q, 0 ≤ q → q < μ.1 18 → g' j q = g j q) (hA : ∀ q, 0 ≤ q → q < μ.1 18 → rOK σ μ en fin lv ia g q)
    (hR : μ.1 18 ≤ μ'.1 18) (hT : μ.1 16 ≤ μ'.1 16) (h7 : μ'.1 7 = μ.1 7) (h24 : μ'.2 24 i = μ.2 24 i) (h25 : μ'.2 25 i = μ.2 25 i) (h26 : μ'.2 26 i = μ.2 26 i) (h27 : ∀ k, k < 42 → μ'.2 27 (42 * i + k) = μ.2 27 (42 * i + k)) (hci : zci (μ'.2 26) i = zci (μ.2 26) i)
    (hcl : μ.2 26 i ≠ 1 → σ'.2 19 (zci (μ.2 26) i) = σ.2 19 (zci (μ.2 26) i) ∧ σ'.2 20 (zci (μ.2 26) i) = σ.2 20 (zci (μ.2 26) i) ∧ σ'.2 21 (zci (μ.2 26) i) = σ.2 21 (zci (μ.2 26) i) ∧ zcat σ' (σ.2 21 (zci (μ.2 26) i)) = zcat σ (σ.2 21 (zci (μ.2 26) i)))
    (hs : rSub μ' (μ.2 24 i) (if (i : Int) + 1 < μ'.1 19 then μ'.2 24 (i + 1) else r')) : rEnt σ' μ' en g' r' i := by
  obtain ⟨⟨a1, a2, a3⟩, a4, a5, a6, a7, a8, a9⟩ := h
  have hv : rV μ (μ.2 24 i) := ⟨a1, a2, a3⟩
  have e18 : μ'.2 18 (μ.2 24 i).toNat = μ.2 18 (μ.2 24 i).toNat := ho 18 (by omega) (by omega) _ (by omega)
  refine ⟨⟨by rw [h24]; exact a1, by rw [h24]; omega, by rw [h24, e18]; exact a3⟩, by rw [h26]; exact a4, by rw [h26]; exact a5, ?_, by rw [h24]; exact hs, fun k => ?_, fun hl => ?_⟩
  · rw [h24, hg 3 _ a1 a2]; omega
  · rw [h24, zit_ag hA ho k _ hv]
    have hv2 := (zit_V hA k _ hv).1
    have hb : ((zit (μ.2 20) k (μ.2 24 i)).toNat : Int) < μ.1 18 := by have := hv2.1; have := hv2.2.1; omega
    rw [ho 18 (by omega) (by omega) _ hb, ho 22 (by omega) (by omega) _ hb]
    exact a8 k
  · rw [h26] at hl
    obtain ⟨b1, b2, b3, b4, b5, b6, b7, b8⟩ := a9 hl
    obtain ⟨c1, c2, c3, c4⟩ := hcl hl
    have e1 : σ'.2 1 = σ.2 1 := by have := congrArg (fun z : z_S => z.2 1) hc; exact this
    have e2 : σ'.2 2 = σ.2 2 := by have := congrArg (fun z : z_S => z.2 2) hc; exact this
    rw [hci, h24, h25, h7, c1, c2, c3, c4, hg 0 _ a1 a2, hg 4 _ a1 a2, hg 2 _ a1 a2, e18]
    refine ⟨?_, b2, b3, b4, b5, ?_, rLive_ag hc hm ho hA hv hT b7, by omega⟩
    · have e4 : σ'.1 4 = σ.1 4 := by have := congrArg (fun z : z_S => z.1 4) hc; exact this
      unfold zpx at b1 ⊢; rw [e1, e2, e4]; exact b1
    · intro k hk
      have := b6 k hk
      dsimp only at this ⊢
      rw [h27 (2 * k) (by omega), h27 (2 * k + 1) (by omega)]
      exact this
/-- a step of both that leaves the pile as it is -/
theorem rAll_gen (hA : rAll σ μ en fin lv ow gw kw ia g r) (hr : rV μ r) (hc : cutC σ' = cutC σ) (hm : cutM μ' = cutM μ) (ho : oAg (μ.1 18) μ μ') (hg : ∀ j q, 0 ≤ q → q < μ.1 18 → g' j q = g j q)
    (hR : μ.1 18 ≤ μ'.1 18) (hT : μ.1 16 ≤ μ'.1 16) (h7 : μ'.1 7 = μ.1 7) (h19 : μ'.1 19 = μ.1 19) (h24 : ∀ j, 24 ≤ j → j ≤ 27 → μ'.2 j = μ.2 j) (hcl : σ'.2 19 = σ.2 19 ∧ σ'.2 20 = σ.2 20 ∧ σ'.2 21 = σ.2 21) (hcat : ∀ t, 0 ≤ t → t ≤ σ.1 23 → zcat σ' t = zcat σ t)
    (hnew : ∀ q, μ.1 18 ≤ q → q < μ'.1 18 → rOK σ' μ' en fin lv ia g' q) (hTx : zTx σ' μ') (hCI : zCI σ') (hNum : rNum σ' μ') (hsub : ∀ i : Nat, (i : Int) + 1 = μ.1 19 → rSub μ' (μ.2 24 i) r') : rAll σ' μ' en fin lv ow gw kw ia g' r' := by
  obtain ⟨a1, a2, a3, a4, a5, a6⟩ := hA
  refine ⟨pAll_mv hc hm a1, hTx, hCI, hNum, fun q q0 q1 => ?_, fun i hi => ?_⟩
  · by_cases e : q < μ.1 18
    · exact rOK_ag hc hm h7 ho hg a5 q0 e
    · exact hnew q (by omega) q1
  · rw [h19] at hi
    have he := a6 i hi
    refine rEnt_ag he hc hm ho hg a5 hR hT h7 (by rw [h24 24 (by omega) (by omega)]) (by rw [h24 25 (by omega) (by omega)]) (by rw [h24 26 (by omega) (by omega)]) (fun k _ => by rw [h24 27 (by omega) (by omega)]) (by rw [h24 26 (by omega) (by omega)]) (fun hl => ?_) ?_
    · obtain ⟨b1, b2, b3, b4, b5, b6⟩ := a3
      have hci : ((zci (μ.2 26) i : Nat) : Int) < σ.1 22 := by
        have := zci_lt (μ.2 26) (show i < (μ.1 19).toNat by omega) hl
        rw [a4.2.2.2.2.2.2.2]; omega
      have := b5 _ hci
      exact ⟨by rw [hcl.1], by rw [hcl.2.1], by rw [hcl.2.2], hcat _ this.1 this.2⟩
    · rw [h19]
      by_cases e : (i : Int) + 1 < μ.1 19
      · rw [if_pos e, h24 24 (by omega) (by omega)]
        have hs := he.2.2.2.2.1
        rw [if_pos e] at hs
        have hn := a6 (i + 1) (by omega)
        exact rSub_ag ho a5 he.1 hn.1 hs
      · rw [if_neg e]
        exact hsub i (by omega)
/-- what the newest entry says of the row that is on -/
theorem rAll_top (hA : rAll σ μ en fin lv ow gw kw ia g r) {i : Nat} (hi : (i : Int) + 1 = μ.1 19) : rSub μ (μ.2 24 i) r ∧ rV μ (μ.2 24 i) := by
  have h := hA.2.2.2.2.2 i (by omega)
  have hs := h.2.2.2.2.1
  rw [if_neg (by omega)] at hs
  exact ⟨hs, h.1⟩
/-- another row is on -/
theorem rAll_row {r2 : Int} (hA : rAll σ μ en fin lv ow gw kw ia g r) (hs : rSub μ r r2) : rAll σ μ en fin lv ow gw kw ia g r2 := by
  obtain ⟨a1, a2, a3, a4, a5, a6⟩ := id hA
  refine ⟨a1, a2, a3, a4, a5, fun i hi => ?_⟩
  obtain ⟨b1, b2, b3, b4, b5, b6, b7⟩ := a6 i hi
  refine ⟨b1, b2, b3, b4, ?_, b6, b7⟩
  by_cases e : (i : Int) + 1 < μ.1 19
  · rw [if_pos e] at b5 ⊢; exact b5
  · rw [if_neg e] at b5 ⊢; exact rSub_tr b5 hs
theorem zfr_cutM {ks js : List Nat} (h : zfr ks js μ μ') (h1 : ∀ k ∈ ks, ¬ (k = 3 ∨ k = 4 ∨ (8 ≤ k ∧ k ≤ 10))) (h2 : ∀ j ∈ js, ¬ (3 ≤ j ∧ j ≤ 13)) : cutM μ' = cutM μ := cutM_fr h h1 h2
theorem zrow_cut {t n m x y z : Int} : cutM (zrow μ t n m x y z) = cutM μ := cutM_fr zrow_fr (by simp) (by simp)
theorem gup_old {R a0 a1 a2 a3 a4 : Int} (j : Nat) (q : Int) (h : q < R) : gup g R a0 a1 a2 a3 a4 j q = g j q := if_neg (by omega)
/-- a row more -/
theorem rAll_add (hA : rAll σ μ en fin lv ow gw kw ia g r) (hr : rV μ r) (t n m x y z a0 a1 a2 a3 a4 : Int) (hm0 : 0 ≤ m) (hm1 : m < μ.1 18)
    (hnew : rOKd σ μ en fin lv ia (μ.1 7) t n m x (μ.2 18 m.toNat) (μ.1 18) (fun j => if j = 0 then a0 else if j = 1 then a1 else if j = 2 then a2 else if j = 3 then a3 else a4) (fun j => g j m)) :
    rAll σ (zrow μ t n m x y z) en fin lv ow gw kw ia (gup g (μ.1 18) a0 a1 a2 a3 a4) r := by
  have hp : 0 ≤ μ.1 18 := by have := hA.2.2.2.1.2.2.2.2.2.2.1; omega
  have ho : oAg (μ.1 18) μ (zrow μ t n m x y z) := zrow_ag hp
  refine rAll_gen hA hr rfl zrow_cut ho (fun j q _ h => gup_old j q h) (by rw [zrow_at.1]; omega) (Int.le_refl _) rfl rfl (fun j h1 h2 => zrow_fr.2 j (by simp; omega)) ⟨rfl, rfl, rfl⟩ (fun _ _ _ => rfl) (fun q q0 q1 => ?_) hA.2.1 hA.2.2.1 ?_ (fun i hi => ?_)
  · have e : q = μ.1 18 := by have := zrow_at (μ := μ) (a := t) (b := n) (c := m) (d := x) (e := y) (f := z); rw [this.1] at q1; omega
    subst e
    obtain ⟨z0, z18, z19, z20, z21, z22, z23⟩ := zrow_at (μ := μ) (a := t) (b := n) (c := m) (d := x) (e := y) (f := z)
    unfold rOK
    rw [z18, z19, z20, z21, zupd_s, zupd_s, zupd_s, zupd_s, zupd_n (show m.toNat ≠ (μ.1 18).toNat by omega), ← rOKd_cut, zrow_cut, rOKd_cut]
    have e1 : (fun j => gup g (μ.1 18) a0 a1 a2 a3 a4 j (μ.1 18)) = fun j => if j = 0 then a0 else if j = 1 then a1 else if j = 2 then a2 else if j = 3 then a3 else a4 := funext fun j => if_pos rfl
    have e2 : (fun j => gup g (μ.1 18) a0 a1 a2 a3 a4 j m) = fun j => g j m := funext fun j => gup_old j m hm1
    rw [e1, e2]
    exact hnew
  · obtain ⟨n1, n2, n3, n4, n5, n6, n7, n8⟩ := hA.2.2.2.1
    exact ⟨n1, n2, n3, n4, n5, n6, by rw [zrow_at.1]; omega, n8⟩
  · obtain ⟨s1, s2⟩ := rAll_top hA hi
    exact rSub_ag ho hA.2.2.2.2.1 s2 hr s1
end OP
