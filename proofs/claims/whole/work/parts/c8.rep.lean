/-! repetitions -/
section OZ
variable {N : Nat} {σ σ' μ μ' : z_S} {en fin lv ow gw kw : Int → Int} {ia : Int → Prop} {g g' : Nat → Int → Int} {r r' m p q n : Int}
theorem zgo_e {a k : Int} (h0 : 0 ≤ a) (h1 : a < 100) (hh0 : 0 ≤ σ.2 12 a.toNat) (hh1 : σ.2 12 a.toNat + 1 < 602) (hc0 : 0 ≤ σ.1 22) (hc1 : σ.1 22 < 10100) : zMachine_goOnOrEnd N a k σ =
    some (if σ.2 8 a.toNat ≤ k then (σ.2 2 (σ.2 12 a.toNat).toNat, σ) else if k < σ.2 7 a.toNat then (σ.2 12 a.toNat + 1, σ) else if σ.2 9 a.toNat = 0 then (σ.2 12 a.toNat + 1, zch σ (σ.2 2 (σ.2 12 a.toNat).toNat)) else (σ.2 2 (σ.2 12 a.toNat).toNat, zch σ (σ.2 12 a.toNat + 1))) := by
  have e1 : zRows_read N 12 a σ = some (σ.2 12 a.toNat, σ) := zrr (by decide) h0 (by show a < (100 : Int); omega)
  have e2 : zRows_read N 2 (σ.2 12 a.toNat) σ = some (σ.2 2 (σ.2 12 a.toNat).toNat, σ) := zrr (by decide) hh0 (by show _ < (602 : Int); omega)
  have e3 : zRows_read N 8 a σ = some (σ.2 8 a.toNat, σ) := zrr (by decide) h0 (by show a < (100 : Int); omega)
  have e4 : zRows_read N 7 a σ = some (σ.2 7 a.toNat, σ) := zrr (by decide) h0 (by show a < (100 : Int); omega)
  have e5 : zRows_read N 9 a σ = some (σ.2 9 a.toNat, σ) := zrr (by decide) h0 (by show a < (100 : Int); omega)
  simp only [zMachine_goOnOrEnd_u, e1, e2, e3, e4, e5, Option.bind_some]
  by_cases c1 : σ.2 8 a.toNat ≤ k
  · rw [if_neg (by omega), if_pos c1]
  · rw [if_pos (by omega), if_neg c1, if_pos (show zin (σ.2 12 a.toNat + 1) from ⟨by omega, by omega⟩)]
    by_cases c2 : k < σ.2 7 a.toNat
    · rw [if_neg (by omega), if_pos c2]
    · rw [if_pos (by omega), if_neg c2]
      by_cases c3 : σ.2 9 a.toNat = 0
      · rw [if_pos c3, if_pos c3, zch_e hc0 hc1]; rfl
      · rw [if_neg c3, if_neg c3, zch_e hc0 hc1]; rfl
theorem zround_no (h0 : 0 ≤ r) (h1 : r < 90000) (hf : μ.1 16 = μ.1 17) : zMod_round N r μ = some (-2, μ) := by
  rw [zMod_round_u, if_pos (show zIn r 90000 from ⟨h0, by omega⟩), zspend_no hf]
  rfl
theorem zround_e (hN : 43 ≤ N) (h0 : 0 ≤ r) (h1 : r < μ.1 18) (hR : μ.1 18 < 89000) (hf : μ.1 16 ≠ μ.1 17) (hs0 : 0 ≤ μ.1 16) (hs1 : μ.1 16 ≤ 10000) (hn0 : 0 ≤ μ.2 19 r.toNat) (hn1 : μ.2 19 r.toNat < 1300) (hp0 : 0 ≤ μ.1 19) (hp1 : μ.1 19 < 16000) : zMod_round N r μ =
    some (if μ.2 22 r.toNat = 0 then (μ.2 20 r.toNat, zF μ 16 (μ.1 16 + 1)) else if 0 < μ.2 21 r.toNat then (μ.1 18, zrow (zF μ 16 (μ.1 16 + 1)) 5 (μ.2 19 r.toNat) (μ.2 20 r.toNat) (μ.2 21 r.toNat) (μ.2 22 r.toNat) 0)
      else if μ.2 6 (μ.2 19 r.toNat).toNat = 1 then (μ.2 20 r.toNat, zpush (zrow (zF μ 16 (μ.1 16 + 1)) 5 (μ.2 19 r.toNat) (μ.2 20 r.toNat) (μ.2 21 r.toNat) (μ.2 22 r.toNat) 0) (μ.1 18) (μ.1 11) 0)
      else (μ.1 18, zpush (zrow (zF μ 16 (μ.1 16 + 1)) 5 (μ.2 19 r.toNat) (μ.2 20 r.toNat) (μ.2 21 r.toNat) (μ.2 22 r.toNat) 0) (μ.2 20 r.toNat) (μ.1 11) 0)) := by
  have a : zIn r 90000 := ⟨h0, by omega⟩
  have b : zIn (μ.2 19 r.toNat) 1300 := ⟨hn0, by omega⟩
  have e1 : zMod_spends N μ = some (1, zF μ 16 (μ.1 16 + 1)) := zspend hf hs0 hs1
  have e2 : zMod_row N 5 (μ.2 19 r.toNat) ((zF μ 16 (μ.1 16 + 1)).2 20 r.toNat) ((zF μ 16 (μ.1 16 + 1)).2 21 r.toNat) ((zF μ 16 (μ.1 16 + 1)).2 22 r.toNat) 0 (zF μ 16 (μ.1 16 + 1)) = some (μ.1 18, zrow (zF μ 16 (μ.1 16 + 1)) 5 (μ.2 19 r.toNat) (μ.2 20 r.toNat) (μ.2 21 r.toNat) (μ.2 22 r.toNat) 0) := zrow_e (μ := zF μ 16 (μ.1 16 + 1)) (by show 0 ≤ μ.1 18; omega) (by show μ.1 18 < 90000; omega)
  have ho : oAg (μ.1 18) (zF μ 16 (μ.1 16 + 1)) (zrow (zF μ 16 (μ.1 16 + 1)) 5 (μ.2 19 r.toNat) (μ.2 20 r.toNat) (μ.2 21 r.toNat) (μ.2 22 r.toNat) 0) := zrow_ag (μ := zF μ 16 (μ.1 16 + 1)) (by show 0 ≤ μ.1 18; omega)
  have e21 := ho 21 (by omega) (by omega) r.toNat (by omega)
  have e20 := ho 20 (by omega) (by omega) r.toNat (by omega)
  have h10 : ((1 : Nat) = 0) = False := by simp
  simp only [zMod_round_u, if_pos a, if_pos b, e1, e2, Option.bind_some, Int.reduceEq, h10, if_false, if_true]
  by_cases c1 : μ.2 22 r.toNat = 0
  · rw [if_pos (show (zF μ 16 (μ.1 16 + 1)).2 22 r.toNat = 0 from c1), if_pos c1]; rfl
  · rw [if_neg (show ¬ (zF μ 16 (μ.1 16 + 1)).2 22 r.toNat = 0 from c1), if_neg c1, e21, e20]
    by_cases c2 : 0 < μ.2 21 r.toNat
    · rw [if_neg (show ¬ (zF μ 16 (μ.1 16 + 1)).2 21 r.toNat ≤ 0 by show ¬ μ.2 21 r.toNat ≤ 0; omega), if_pos c2]
    · rw [if_pos (show (zF μ 16 (μ.1 16 + 1)).2 21 r.toNat ≤ 0 by show μ.2 21 r.toNat ≤ 0; omega), if_neg c2]
      by_cases c3 : μ.2 6 (μ.2 19 r.toNat).toNat = 1
      · rw [if_pos (show (zrow (zF μ 16 (μ.1 16 + 1)) 5 (μ.2 19 r.toNat) (μ.2 20 r.toNat) (μ.2 21 r.toNat) (μ.2 22 r.toNat) 0).2 6 (μ.2 19 r.toNat).toNat = 1 from c3), if_pos c3, zpush_e (μ := zrow (zF μ 16 (μ.1 16 + 1)) 5 _ _ _ _ 0) hN hp0 (by show μ.1 19 < 16000; omega)]
        simp only [Option.bind_some]
        show some ((zrow (zF μ 16 (μ.1 16 + 1)) 5 (μ.2 19 r.toNat) (μ.2 20 r.toNat) (μ.2 21 r.toNat) (μ.2 22 r.toNat) 0).2 20 r.toNat, _) = _
        rw [e20]; rfl
      · rw [if_neg (show ¬ (zrow (zF μ 16 (μ.1 16 + 1)) 5 (μ.2 19 r.toNat) (μ.2 20 r.toNat) (μ.2 21 r.toNat) (μ.2 22 r.toNat) 0).2 6 (μ.2 19 r.toNat).toNat = 1 from c3), if_neg c3, zpush_e (μ := zrow (zF μ 16 (μ.1 16 + 1)) 5 _ _ _ _ 0) hN hp0 (by show μ.1 19 < 16000; omega)]
        simp only [Option.bind_some]
        rfl
/-- what both go on with: the class's number k is the reference's rest x, y -/
theorem rnd {k x y : Int} (hA : rAll σ μ en fin lv ow gw kw ia g m) (hm : rV μ m) (hl : rLks σ μ en m) (hli : rLive σ μ en (σ.2 18) (μ.1 16) m) (n0 : 0 ≤ n) (n1 : n < μ.1 8) (hk : μ.2 3 n.toNat = 16) (hx : zpx σ (σ.2 2 (en n).toNat) (g 0 m)) (hd : g 1 m < 2 * lv n) (ht4 : μ.2 18 m.toNat ≠ 4 ∧ μ.2 18 m.toNat ≠ 5)
    (hc : σ.2 18 (63 + σ.2 3 (en n).toNat).toNat = k) (hk0 : 0 ≤ k) (hk1 : k ≤ μ.1 16) (hx2 : x = (if μ.2 4 n.toNat ≤ k then 0 else μ.2 4 n.toNat - k)) (hy2 : y = (if μ.2 5 n.toNat = 1000000 then 1000000 else μ.2 5 n.toNat - k)) (hb : μ.2 5 n.toNat = 1000000 ∨ k ≤ μ.2 5 n.toNat)
    (hg : zGR (σ.2 18) (μ.2 17) (μ.1 7)) (h4 : g 4 m ≤ μ.1 11) (hsl : σ.1 23 + 3 * g 2 m + zps (σ.2 18) 20 ≤ 4 * μ.1 16 - 1) (hro : μ.1 18 + 1 ≤ 7 * μ.1 16 + 2) (hpi : μ.1 19 + 1 ≤ μ.1 16 + g 3 m) :
    ∃ p' σ' r' μ' g', (if σ.2 8 (σ.2 3 (en n).toNat).toNat ≤ k then (σ.2 2 (en n).toNat, σ) else if k < σ.2 7 (σ.2 3 (en n).toNat).toNat then (en n + 1, σ) else if σ.2 9 (σ.2 3 (en n).toNat).toNat = 0 then (en n + 1, zch σ (σ.2 2 (en n).toNat)) else (σ.2 2 (en n).toNat, zch σ (en n + 1))) = (p', σ') ∧
      (if y = 0 then (m, μ) else if 0 < x then (μ.1 18, zrow μ 5 n m x y 0) else if μ.2 6 n.toNat = 1 then (m, zpush (zrow μ 5 n m x y 0) (μ.1 18) (μ.1 11) 0) else (μ.1 18, zpush (zrow μ 5 n m x y 0) m (μ.1 11) 0)) = (r', μ') ∧
      rI σ' μ' en fin lv ow gw kw ia g' r' p' ∧ fC σ σ' ∧ fM μ μ' ∧ σ'.1 22 ≤ σ.1 22 + 1 ∧ σ'.1 27 = σ.1 27 ∧ cutC σ' = cutC σ := by
  obtain ⟨k1, k2, k3, k4, k5, k6, k7, k8, k9, k10, k11⟩ := (hA.1.2.2.1 n n0 n1).2.2.2.2.2.2 hk
  obtain ⟨q1, q2, q3, q4, q5, q6⟩ := k9
  obtain ⟨N1, N2, N3, N4, N5, N6, N7, N8⟩ := id hA.2.2.2.1
  have hbm := bOK_of hA hm
  have hR0 : 0 ≤ μ.1 18 := by omega
  generalize hrp : σ.2 3 (en n).toNat = rp at *
  by_cases c1 : σ.2 8 rp.toNat ≤ k
  · have hy0 : y = 0 := by
      unfold pBnd at q6
      rw [hy2]
      split <;> omega
    refine ⟨_, _, _, _, g, if_pos c1, if_pos hy0, ⟨hA, hm, hx, hg, hli, hl, h4, ?_, ?_, ?_⟩, zfr_rf, zfr_rf, by omega, rfl, rfl⟩
    · have := rSl_0 (μ := μ) (r := m) ht4.2; omega
    · have := rEx_0 (μ := μ) (r := m); omega
    · omega
  · have hy0 : y ≠ 0 := by
      unfold pBnd at q6
      rw [hy2]
      split <;> omega
    have hxy : rXY k (μ.2 4 n.toNat) (μ.2 5 n.toNat) x y := ⟨hx2, hy2, by
      by_cases e : μ.2 5 n.toNat = 1000000
      · exact Or.inl e
      · rw [if_neg e] at hy2; right; omega⟩
    rw [if_neg c1, if_neg hy0]
    obtain ⟨x1, x2, ⟨x3, x4, x5, x6⟩, x7, x8⟩ := rAdd (t := 5) (n := n) (x := x) (y := y) (z := 0) hA hm ⟨hm, hl, rSub_rf, rSub_rf⟩ (by decide) (by decide) (mk_t5 hbm ⟨hm.1, hm.2.1⟩ ht4 ⟨n0, n1⟩ hk hx hd) (c := σ.2 18) (T := μ.1 16) ⟨fun h => absurd h (by decide), fun _ => by rw [hrp, hc]; exact ⟨hk0, hk1, hxy⟩, fun h => absurd h (by decide)⟩ hli
    obtain ⟨z0, z18, z19, z20, -, -, -⟩ := zrow_n (μ := μ) (t := 5) (n := n) (m := m) (x := x) (y := y) (z := 0)
    have y4 : rLks σ (zrow μ 5 n m x y 0) en m := by have := rLks_next x4; rw [z20] at this; exact this
    have y7 : rLive σ (zrow μ 5 n m x y 0) en (σ.2 18) (μ.1 16) m := by have := rLive_next x7; rw [z20] at this; exact this
    have hsl5 : rSl (zrow μ 5 n m x y 0) (μ.1 18) = -1 := by unfold rSl; rw [z18, if_pos rfl]
    have gm : ∀ j, gup g (μ.1 18) (en n + 1) (g 1 m) (g 2 m) (g 3 m) (g 4 m) j m = g j m := fun j => gup_old j m hm.2.1
    have t18m : (zrow μ 5 n m x y 0).2 18 m.toNat = μ.2 18 m.toNat := x8 18 (by omega) (by omega) _ (by have := hm.1; have := hm.2.1; omega)
    by_cases c2 : k < σ.2 7 rp.toNat
    · have hx0 : 0 < x := by
        unfold pBnd at q2
        rw [hx2]
        split <;> omega
      refine ⟨_, _, _, _, _, if_pos c2, if_pos hx0, ⟨rAll_row x1 x5, x3, ?_, hg, x7, x4, ?_, ?_, ?_, ?_⟩, zfr_rf, fM_row, by omega, rfl, rfl⟩
      · rw [gup_0.1]; exact zpx_rf
      · rw [gup_0.2.2.2.2]; exact h4
      · rw [gup_0.2.2.1, hsl5]
        show σ.1 23 + 3 * g 2 m + _ ≤ 4 * μ.1 16 + _
        omega
      · have := rEx_0 (μ := zrow μ 5 n m x y 0) (r := μ.1 18)
        rw [z0]
        show _ ≤ 7 * μ.1 16 + 2 + _
        omega
      · rw [gup_0.2.2.2.1]
        show μ.1 19 ≤ μ.1 16 + g 3 m
        omega
    · have hx0 : ¬ 0 < x := by
        unfold pBnd at q2
        rw [hx2]
        split <;> omega
      rw [if_neg c2, if_neg hx0]
      by_cases c3 : μ.2 6 n.toNat = 1
      · -- lazy
        rw [if_neg (show ¬ σ.2 9 rp.toNat = 0 by omega), if_pos c3]
        obtain ⟨y1, y2, y3, y5⟩ := rPu (q := μ.1 18) (m := m) (l := 0) (p := en n + 1) (σ' := zch σ (en n + 1)) (rAll_row x1 x5) x3 x4 (by decide) (by decide) x2 x6 y4 y7 (by rw [gup_0.2.2.2.1]; show μ.1 19 ≤ μ.1 16 + _; omega) (fun e => absurd e (by decide)) (fun _ => ⟨rfl, by rw [gup_0.1]; exact zpx_rf, by rw [gup_0.2.2.2.2]; exact h4, hg, x7, by
          rw [gup_0.2.2.1, z18, if_pos rfl]
          show σ.1 23 + 3 * g 2 m + _ ≤ 4 * μ.1 16 + -1
          omega⟩)
        refine ⟨_, _, _, _, _, rfl, rfl, ⟨y1, y2, ?_, hg, y5, y3, ?_, ?_, ?_, ?_⟩, fC_ch, zfr_tr fM_row fM_push, ?_, rfl, cutC_fr zch_fr (by simp) (by simp)⟩
        · rw [gm]; exact hx
        · rw [gm]; exact h4
        · have := rSl_0 (μ := zpush (zrow μ 5 n m x y 0) (μ.1 18) (μ.1 11) 0) (r := m) (by show (zrow μ 5 n m x y 0).2 18 m.toNat ≠ 5; rw [t18m]; exact ht4.2)
          rw [gm]
          show σ.1 23 + 3 * g 2 m + zps (σ.2 18) 20 ≤ 4 * μ.1 16 + _
          omega
        · have := rEx_0 (μ := zpush (zrow μ 5 n m x y 0) (μ.1 18) (μ.1 11) 0) (r := m)
          show μ.1 18 + 1 ≤ 7 * μ.1 16 + 2 + _
          omega
        · rw [gm]
          show μ.1 19 + 1 ≤ μ.1 16 + _
          omega
        · show σ.1 22 + 1 ≤ _; omega
      · rw [if_pos (show σ.2 9 rp.toNat = 0 by omega), if_neg c3]
        obtain ⟨y1, y2, y3, y5⟩ := rPu (q := m) (m := μ.1 18) (l := 0) (p := σ.2 2 (en n).toNat) (σ' := zch σ (σ.2 2 (en n).toNat)) x1 x2 y4 (by decide) (by decide) x3 x5 x4 x7 (by rw [gm]; show μ.1 19 ≤ μ.1 16 + _; omega) (fun e => absurd e (by decide)) (fun _ => ⟨rfl, by rw [gm]; exact hx, by rw [gm]; exact h4, hg, y7, by
          rw [gm, t18m, if_neg ht4.2]
          show σ.1 23 + 3 * g 2 m + _ ≤ 4 * μ.1 16 + 0
          omega⟩)
        refine ⟨_, _, _, _, _, rfl, rfl, ⟨y1, y2, ?_, hg, y5, y3, ?_, ?_, ?_, ?_⟩, fC_ch, zfr_tr fM_row fM_push, ?_, rfl, cutC_fr zch_fr (by simp) (by simp)⟩
        · rw [gup_0.1]; exact zpx_rf
        · rw [gup_0.2.2.2.2]; exact h4
        · have e : rSl (zpush (zrow μ 5 n m x y 0) m (μ.1 11) 0) (μ.1 18) = -1 := hsl5
          rw [gup_0.2.2.1, e]
          show σ.1 23 + 3 * g 2 m + zps (σ.2 18) 20 ≤ 4 * μ.1 16 + _
          omega
        · have := rEx_0 (μ := zpush (zrow μ 5 n m x y 0) m (μ.1 11) 0) (r := μ.1 18)
          show μ.1 18 + 1 ≤ 7 * μ.1 16 + 2 + _
          omega
        · rw [gup_0.2.2.2.1]
          show μ.1 19 + 1 ≤ μ.1 16 + _
          omega
        · show σ.1 22 + 1 ≤ _; omega
end OZ
