/-! rows made -/
section MK
variable {σ μ : z_S} {en fin lv : Int → Int} {ia : Int → Prop} {len n m x tm q a0 a1 a2 a3 a4 : Int} {b : Nat → Int}
abbrev r5 (a0 a1 a2 a3 a4 : Int) : Nat → Int := fun j => if j = 0 then a0 else if j = 1 then a1 else if j = 2 then a2 else if j = 3 then a3 else a4
abbrev bOK (b : Nat → Int) : Prop := 0 ≤ b 1 ∧ 0 ≤ b 2 ∧ 0 ≤ b 3 ∧ b 3 ≤ b 1 ∧ 0 ≤ b 4
theorem mk_t0 (hb : bOK b) (hm : 0 ≤ m ∧ m < q) (ht : tm ≠ 4 ∧ tm ≠ 5) (hn : 0 ≤ n ∧ n < μ.1 8) (hk : 3 ≤ μ.2 3 n.toNat) (h1 : zpx σ (σ.2 2 (pex μ en n).toNat) (b 0)) (h2 : b 1 < rDp μ lv n) :
    rOKd σ μ en fin lv ia len 0 n m x tm q (r5 (en n) (b 1) (b 2) (b 3) (b 4)) b := by
  refine ⟨⟨hb.1, hb.2.1, hb.2.2.1, hb.2.2.2.1, hb.2.2.2.2, by decide, by decide⟩, fun h => absurd h (by decide), fun _ => hm, fun _ _ => ht, fun _ _ _ => hn, fun _ => ⟨rfl, rfl, rfl, rfl⟩, fun _ => Or.inr ⟨hk, rfl, h1, h2⟩, fun h => absurd h (by decide), fun h => absurd h (by decide), fun h => absurd h (by decide), fun h => absurd h (by decide), fun h => absurd h (by decide), fun h => absurd h (by decide)⟩
theorem mk_t0c (hb : bOK b) (hm : 0 ≤ m ∧ m < q) (ht : tm ≠ 4 ∧ tm ≠ 5) (hn : 0 ≤ n ∧ n < μ.1 8) (hk : μ.2 3 n.toNat = 1) (hf : 0 ≤ μ.2 7 n.toNat ∧ μ.2 7 n.toNat < μ.1 8 ∧ μ.2 3 (μ.2 7 n.toNat).toNat = 2) (h1 : zpx σ (fin (μ.2 7 n.toNat)) (b 0)) (h2 : b 1 < 2 * lv (μ.2 7 n.toNat)) :
    rOKd σ μ en fin lv ia len 0 n m x tm q (r5 (en (μ.2 7 n.toNat)) (b 1) (b 2) (b 3) (b 4)) b := by
  refine ⟨⟨hb.1, hb.2.1, hb.2.2.1, hb.2.2.2.1, hb.2.2.2.2, by decide, by decide⟩, fun h => absurd h (by decide), fun _ => hm, fun _ _ => ht, fun _ _ _ => hn, fun _ => ⟨rfl, rfl, rfl, rfl⟩, fun _ => Or.inl ⟨hk, hf.1, hf.2.1, hf.2.2, rfl, h1, h2⟩, fun h => absurd h (by decide), fun h => absurd h (by decide), fun h => absurd h (by decide), fun h => absurd h (by decide), fun h => absurd h (by decide), fun h => absurd h (by decide)⟩
theorem mk_t1 (hb : bOK b) (hm : 0 ≤ m ∧ m < q) (ht : tm ≠ 4 ∧ tm ≠ 5) (hn : 0 ≤ n ∧ n < μ.1 8) (hk : μ.2 3 n.toNat = 2) (h1 : zpx σ (fin n) (b 0)) (h2 : b 1 < 2 * lv n) : rOKd σ μ en fin lv ia len 1 n m x tm q (r5 (en n) (b 1) (b 2) (b 3) (b 4)) b := by
  refine ⟨⟨hb.1, hb.2.1, hb.2.2.1, hb.2.2.2.1, hb.2.2.2.2, by decide, by decide⟩, fun h => absurd h (by decide), fun _ => hm, fun _ _ => ht, fun _ _ _ => hn, fun _ => ⟨rfl, rfl, rfl, rfl⟩, fun h => absurd h (by decide), fun _ => ⟨hk, rfl, h1, h2⟩, fun h => absurd h (by decide), fun h => absurd h (by decide), fun h => absurd h (by decide), fun h => absurd h (by decide), fun h => absurd h (by decide)⟩
theorem mk_t2 (hb : bOK b) (hm : 0 ≤ m ∧ m < q) (ht : tm ≠ 4 ∧ tm ≠ 5) (h : (n < 0 ∧ a0 = b 0) ∨ (0 ≤ n ∧ n < μ.1 8 ∧ ia n ∧ a0 = en n ∧ zpx σ (fin n) (b 0) ∧ b 1 < 2 * lv n)) : rOKd σ μ en fin lv ia len 2 n m x tm q (r5 a0 (b 1) (b 2) (b 3) (b 4)) b := by
  refine ⟨⟨hb.1, hb.2.1, hb.2.2.1, hb.2.2.2.1, hb.2.2.2.2, by decide, by decide⟩, fun h => absurd h (by decide), fun _ => hm, fun _ _ => ht, fun _ _ h => absurd rfl h, fun _ => ⟨rfl, rfl, rfl, rfl⟩, fun h => absurd h (by decide), fun h => absurd h (by decide), fun _ => h, fun h => absurd h (by decide), fun h => absurd h (by decide), fun h => absurd h (by decide), fun h => absurd h (by decide)⟩
theorem mk_t3 (hb : bOK b) (hm : 0 ≤ m ∧ m < q) (ht : tm ≠ 4 ∧ tm ≠ 5) (hn : 0 ≤ n ∧ n < μ.1 8) (hk : μ.2 3 n.toNat = 12) (h1 : zpx σ (σ.2 2 (en n + 1).toNat) (b 0)) (h2 : b 1 < 2 * lv n + 1) (h3 : b 4 ≤ x) : rOKd σ μ en fin lv ia len 3 n m x tm q (r5 (en n + 1) (2 * lv n + 1) (b 2 + 1) (b 3) x) b := by
  obtain ⟨c1, c2, c3, c4, c5⟩ := hb
  refine ⟨⟨?_, ?_, c3, ?_, ?_, by decide, by decide⟩, fun h => absurd h (by decide), fun _ => hm, fun _ _ => ht, fun _ _ _ => hn, fun h => absurd h (by decide), fun h => absurd h (by decide), fun h => absurd h (by decide), fun h => absurd h (by decide), fun _ => ⟨hk, rfl, h1, h2, rfl, rfl, rfl, rfl, h3⟩, fun h => absurd h (by decide), fun h => absurd h (by decide), fun h => absurd h (by decide)⟩
  · show 0 ≤ 2 * lv n + 1; omega
  · show 0 ≤ b 2 + 1; omega
  · show b 3 ≤ 2 * lv n + 1; omega
  · show 0 ≤ x; omega
theorem mk_t5 (hb : bOK b) (hm : 0 ≤ m ∧ m < q) (ht : tm ≠ 4 ∧ tm ≠ 5) (hn : 0 ≤ n ∧ n < μ.1 8) (hk : μ.2 3 n.toNat = 16) (h1 : zpx σ (σ.2 2 (en n).toNat) (b 0)) (h2 : b 1 < 2 * lv n) : rOKd σ μ en fin lv ia len 5 n m x tm q (r5 (en n + 1) (b 1) (b 2) (b 3) (b 4)) b := by
  refine ⟨⟨hb.1, hb.2.1, hb.2.2.1, hb.2.2.2.1, hb.2.2.2.2, by decide, by decide⟩, fun h => absurd h (by decide), fun _ => hm, fun _ _ => ht, fun _ _ _ => hn, fun _ => ⟨rfl, rfl, rfl, rfl⟩, fun h => absurd h (by decide), fun h => absurd h (by decide), fun h => absurd h (by decide), fun h => absurd h (by decide), fun _ => ⟨hk, rfl, h1, h2⟩, fun h => absurd h (by decide), fun h => absurd h (by decide)⟩
theorem mk_t6 (hb : bOK b) (hm : 0 ≤ m ∧ m < q) (ht : tm ≠ 4 ∧ tm ≠ 5) (hn : 0 ≤ n ∧ n < μ.1 8) (hk : μ.2 3 n.toNat = 16) (h1 : zpx σ (σ.2 2 (en n).toNat) (b 0)) (h2 : b 1 < 2 * lv n) : rOKd σ μ en fin lv ia len 6 n m x tm q (r5 (en n + 2) (2 * lv n) (b 2) (b 3) (b 4)) b := by
  obtain ⟨c1, c2, c3, c4, c5⟩ := hb
  refine ⟨⟨?_, c2, c3, ?_, c5, by decide, by decide⟩, fun h => absurd h (by decide), fun _ => hm, fun _ _ => ht, fun _ _ _ => hn, fun h => absurd h (by decide), fun h => absurd h (by decide), fun h => absurd h (by decide), fun h => absurd h (by decide), fun h => absurd h (by decide), fun h => absurd h (by decide), fun _ => ⟨hk, rfl, h1, h2, rfl, rfl, rfl, rfl⟩, fun h => absurd h (by decide)⟩
  · show 0 ≤ 2 * lv n; omega
  · show b 3 ≤ 2 * lv n; omega
theorem mk_t7 (hb : bOK b) (hm : 0 ≤ m ∧ m < q) (ht : tm ≠ 4 ∧ tm ≠ 5) (hn : 0 ≤ n ∧ n < μ.1 8) (hk : μ.2 3 n.toNat = 14 ∨ μ.2 3 n.toNat = 15) (h1 : zpx σ (σ.2 2 (en n + 1).toNat) (b 0)) (h2 : b 1 < 2 * lv n + 1) (h3 : b 4 ≤ x) (h4 : x ≤ len) : rOKd σ μ en fin lv ia len 7 n m x tm q (r5 (en n + 1) (2 * lv n + 1) (b 2) (b 3 + 1) (b 4)) b := by
  obtain ⟨c1, c2, c3, c4, c5⟩ := hb
  refine ⟨⟨?_, c2, ?_, ?_, c5, by decide, by decide⟩, fun h => absurd h (by decide), fun _ => hm, fun _ _ => ht, fun _ _ _ => hn, fun h => absurd h (by decide), fun h => absurd h (by decide), fun h => absurd h (by decide), fun h => absurd h (by decide), fun h => absurd h (by decide), fun h => absurd h (by decide), fun h => absurd h (by decide), fun _ => ⟨hk, rfl, h1, h2, rfl, rfl, rfl, rfl, h3, ?_, h4⟩⟩
  · show 0 ≤ 2 * lv n + 1; omega
  · show 0 ≤ b 3 + 1; omega
  · show b 3 + 1 ≤ 2 * lv n + 1; omega
  · omega
theorem mk_t4 (hm : 0 ≤ m ∧ m < q) : rOKd σ μ en fin lv ia len 4 n m x tm q (r5 0 0 0 0 0) b := by
  refine ⟨⟨by decide, by decide, by decide, by decide, by decide, by decide, by decide⟩, fun h => absurd h (by decide), fun _ => hm, fun _ h => absurd rfl h, fun _ h => absurd rfl h, fun h => absurd h (by decide), fun h => absurd h (by decide), fun h => absurd h (by decide), fun h => absurd h (by decide), fun h => absurd h (by decide), fun h => absurd h (by decide), fun h => absurd h (by decide), fun h => absurd h (by decide)⟩
theorem dy_0 {en : Int → Int} {c : Nat → Int} {T t y z : Int} (h3 : t ≠ 3) (h5 : t ≠ 5) (h6 : t ≠ 6) : rDynd σ μ en c T t n x y z := ⟨fun h => absurd h h3, fun h => by omega, fun h => absurd h h6⟩
end MK
section OV
variable {N : Nat} {σ σ' μ μ' : z_S} {en fin lv ow gw kw : Int → Int} {ia : Int → Prop} {g g' : Nat → Int → Int} {r r' m p : Int}
theorem bOK_of (hA : rAll σ μ en fin lv ow gw kw ia g r) (hm : rV μ m) : bOK (fun j => g j m) := by
  obtain ⟨h1, h2, h3, h4, h5, h6⟩ := g1_bd hA.1 hA.2.2.2.2.1 (m.toNat + 1) m (by omega) hm
  exact ⟨h2, h5, h3, h4, h6⟩
/-- what a row r that isn't a look's end hands on to its next -/
theorem rNx (h : rI σ μ en fin lv ow gw kw ia g r p) (h7 : μ.2 18 r.toNat ≠ 7) (h8 : μ.2 18 r.toNat ≠ 8) : rAll σ μ en fin lv ow gw kw ia g (μ.2 20 r.toNat) ∧ rV μ (μ.2 20 r.toNat) ∧ rLks σ μ en (μ.2 20 r.toNat) ∧ rLive σ μ en (σ.2 18) (μ.1 16) (μ.2 20 r.toNat) ∧ (0 ≤ μ.2 20 r.toNat ∧ μ.2 20 r.toNat < r) ∧
    (μ.2 18 (μ.2 20 r.toNat).toNat ≠ 4 ∧ μ.2 18 (μ.2 20 r.toNat).toNat ≠ 5) ∧ bOK (fun j => g j (μ.2 20 r.toNat)) := by
  obtain ⟨hA, b1, b2, b3, b4, b5, b6, b7, b8, b9⟩ := h
  have hq := hA.2.2.2.2.1 r b1.1 b1.2.1
  obtain ⟨v1, v2, v3, v4⟩ := rOK_next hq b1.1 b1.2.1 b1.2.2
  exact ⟨rAll_row hA (rSub_cons h7), v1, rLks_next b5, rLive_next b4, hq.2.2.1 h8, hq.2.2.2.1 h8 b1.2.2, bOK_of hA v1⟩
/-- the next term -/
theorem st_t2 (h : rI σ μ en fin lv ow gw kw ia g r p) (ht : μ.2 18 r.toNat = 2) (hn : 0 ≤ μ.2 19 r.toNat) : oA N σ μ en fin lv ow gw kw ia r p := by
  obtain ⟨hr, hp, h8, hR, hg, hC, hP, hT, hF⟩ := rBd h
  obtain ⟨m1, m2, m3, m4, m5, m6, m7⟩ := rNx h (by omega) (by omega)
  obtain ⟨hA, b1, b2, b3, b4, b5, b6, b7, b8, b9⟩ := h
  have hq := hA.2.2.2.2.1 r hr.1 hr.2.1
  obtain ⟨a1, a2, a3, a4, a5, a6, a7, a8, a9, -⟩ := hq
  obtain ⟨e1, e2, e3, e4⟩ := a6 (by omega)
  dsimp only at e1 e2 e3 e4
  obtain ⟨n1, n2, n3, n4, n5⟩ : μ.2 19 r.toNat < μ.1 8 ∧ ia (μ.2 19 r.toNat) ∧ g 0 r = en (μ.2 19 r.toNat) ∧ zpx σ (fin (μ.2 19 r.toNat)) (g 0 (μ.2 20 r.toNat)) ∧ g 1 r < 2 * lv (μ.2 19 r.toNat) := by
    rcases a9 ht with ⟨k, -⟩ | ⟨-, k⟩
    · omega
    · exact k
  obtain ⟨k1, k2, k3⟩ := ((hA.1.2.2.1 _ hn n1).2.2.2.2.1 n2).1
  have hn16 := (hA.1.2.2.1 _ hn n1).1.2
  have hR0 : 0 ≤ μ.1 18 := by have := hr.1; have := hr.2.1; omega
  -- the two rows
  have hc0 : rOKd σ μ en fin lv ia (μ.1 7) 2 (μ.2 9 (μ.2 19 r.toNat).toNat) (μ.2 20 r.toNat) 0 (μ.2 18 (μ.2 20 r.toNat).toNat) (μ.1 18) (r5 (if μ.2 9 (μ.2 19 r.toNat).toNat < 0 then g 0 (μ.2 20 r.toNat) else en (μ.2 9 (μ.2 19 r.toNat).toNat)) (g 1 (μ.2 20 r.toNat)) (g 2 (μ.2 20 r.toNat)) (g 3 (μ.2 20 r.toNat)) (g 4 (μ.2 20 r.toNat))) (fun j => g j (μ.2 20 r.toNat)) := by
    refine mk_t2 (b := fun j => g j (μ.2 20 r.toNat)) m7 ⟨m5.1, by have := hr.2.1; omega⟩ m6 ?_
    by_cases e : μ.2 9 (μ.2 19 r.toNat).toNat < 0
    · exact Or.inl ⟨e, by rw [if_pos e]⟩
    · obtain ⟨c1, c2, c3, c4⟩ := k3 (by omega)
      refine Or.inr ⟨by omega, c1, c2, by rw [if_neg e], by rw [c3]; exact n4, ?_⟩
      rw [c4]; show g 1 (μ.2 20 r.toNat) < _; omega
  obtain ⟨x1, x2, x3, x4⟩ := rAdc (n := μ.2 9 (μ.2 19 r.toNat).toNat) (x := 0) (y := 0) (z := 0) m1 m2 m3 (by decide) (by decide) hc0 (dy_0 (by decide) (by decide) (by decide)) m4
  obtain ⟨z0, z18, z19, z20, -, -, -⟩ := zrow_n (μ := μ) (t := 2) (n := μ.2 9 (μ.2 19 r.toNat).toNat) (m := μ.2 20 r.toNat) (x := 0) (y := 0) (z := 0)
  have hx8 : (zrow μ 2 (μ.2 9 (μ.2 19 r.toNat).toNat) (μ.2 20 r.toNat) 0 0 0).1 8 = μ.1 8 := rfl
  obtain ⟨y1, y2, y3, y4⟩ := rAdc (t := 0) (n := μ.2 19 r.toNat) (x := 0) (y := 0) (z := 0) x1 x2 x3 (by decide) (by decide) (mk_t0 (bOK_of x1 x2) ⟨hR0, by rw [z0]; omega⟩ (by rw [z18]; exact ⟨by decide, by decide⟩) ⟨hn, by rw [hx8]; exact n1⟩ k1 (by
      show zpx σ (σ.2 2 (pex μ en (μ.2 19 r.toNat)).toNat) _
      rw [k2, gup_0.1]
      by_cases e : μ.2 9 (μ.2 19 r.toNat).toNat < 0
      · rw [if_pos e, if_pos e]; exact n4
      · rw [if_neg e, if_neg e]; exact zpx_rf) (by
      rw [gup_0.2.1]
      show g 1 (μ.2 20 r.toNat) < rDp μ lv (μ.2 19 r.toNat)
      unfold rDp; split <;> omega)) (dy_0 (by decide) (by decide) (by decide)) x4
  rw [z0] at y1 y2 y3 y4
  obtain ⟨w0, w18, w19, w20, -, -, -⟩ := zrow_n (μ := zrow μ 2 (μ.2 9 (μ.2 19 r.toNat).toNat) (μ.2 20 r.toNat) 0 0 0) (t := 0) (n := μ.2 19 r.toNat) (m := μ.1 18) (x := 0) (y := 0) (z := 0)
  rw [z0] at w0 w18 w19 w20
  have hperf : zMod_perform N r μ = some (μ.1 18 + 1, zrow (zrow μ 2 (μ.2 9 (μ.2 19 r.toNat).toNat) (μ.2 20 r.toNat) 0 0 0) 0 (μ.2 19 r.toNat) (μ.1 18) 0 0 0) := by
    rw [zQ_2 hr.1 hR.2 ht hn (by omega), zrow_e hR0 (by omega)]
    simp only [Option.bind_some]
    rw [zrow_e (by rw [z0]; omega) (by rw [z0]; omega), z0]
  refine ⟨_, _, _, zMs_of hperf hr.1 hR.2 (by omega) (by omega), ⟨y1, y2, ?_, b3, y4, y3, ?_, ?_, ?_, ?_⟩, zfr_tr fM_row fM_row, ?_, ?_⟩
  · rw [gup_0.1, ← n3]; exact b2
  · rw [gup_0.2.2.2.2, gup_0.2.2.2.2]; show g 4 (μ.2 20 r.toNat) ≤ μ.1 11; omega
  · rw [gup_0.2.2.1, gup_0.2.2.1]
    have h0 : rSl μ r = 0 := by unfold rSl; rw [if_neg (by omega), if_neg (by omega)]
    have h1 := rSl_0 (μ := zrow (zrow μ 2 (μ.2 9 (μ.2 19 r.toNat).toNat) (μ.2 20 r.toNat) 0 0 0) 0 (μ.2 19 r.toNat) (μ.1 18) 0 0 0) (r := μ.1 18 + 1) (by rw [w18]; decide)
    show σ.1 23 + 3 * g 2 (μ.2 20 r.toNat) + zps (σ.2 18) 20 ≤ 4 * μ.1 16 + _
    omega
  · have h0 : rEx μ r = 0 := by unfold rEx; rw [if_neg (by omega), if_neg (by omega)]
    have h1 : 2 ≤ rEx (zrow (zrow μ 2 (μ.2 9 (μ.2 19 r.toNat).toNat) (μ.2 20 r.toNat) 0 0 0) 0 (μ.2 19 r.toNat) (μ.1 18) 0 0 0) (μ.1 18 + 1) := by
      unfold rEx; rw [w18, if_pos rfl]; split <;> omega
    rw [w0]
    show μ.1 18 + 1 + 1 ≤ 7 * μ.1 16 + 2 + _
    omega
  · rw [gup_0.2.2.2.1, gup_0.2.2.2.1]
    show μ.1 19 ≤ μ.1 16 + g 3 (μ.2 20 r.toNat)
    omega
  · unfold adm; rw [w18]; simp; split <;> omega
  · unfold adm
    rw [w18, w19, if_neg (by decide), if_pos rfl, if_pos ht, if_neg (show ¬ μ.2 19 r.toNat < 0 by omega)]
    split <;> omega
/-- a choice: from its first alternative on -/
theorem st_ch (h : rI σ μ en fin lv ow gw kw ia g r p) (ht : μ.2 18 r.toNat = 0) (hk : μ.2 3 (μ.2 19 r.toNat).toNat = 1) : oA N σ μ en fin lv ow gw kw ia r p := by
  obtain ⟨hr, hp, h8, hR, hg, hC, hP, hT, hF⟩ := rBd h
  obtain ⟨m1, m2, m3, m4, m5, m6, m7⟩ := rNx h (by omega) (by omega)
  obtain ⟨hA, b1, b2, b3, b4, b5, b6, b7, b8, b9⟩ := h
  have hq := hA.2.2.2.2.1 r hr.1 hr.2.1
  obtain ⟨a1, a2, a3, a4, a5, a6, a7, -⟩ := hq
  obtain ⟨e1, e2, e3, e4⟩ := a6 (by omega)
  dsimp only at e1 e2 e3 e4
  obtain ⟨n0, n1⟩ := a5 (by omega) (by omega) (by omega)
  obtain ⟨f0, f1, f2, f3, f4, f5⟩ : 0 ≤ μ.2 7 (μ.2 19 r.toNat).toNat ∧ μ.2 7 (μ.2 19 r.toNat).toNat < μ.1 8 ∧ μ.2 3 (μ.2 7 (μ.2 19 r.toNat).toNat).toNat = 2 ∧ g 0 r = en (μ.2 7 (μ.2 19 r.toNat).toNat) ∧ zpx σ (fin (μ.2 7 (μ.2 19 r.toNat).toNat)) (g 0 (μ.2 20 r.toNat)) ∧ g 1 r < 2 * lv (μ.2 7 (μ.2 19 r.toNat).toNat) := by
    rcases a7 ht with ⟨-, k⟩ | ⟨k, -⟩
    · exact k
    · omega
  have hR0 : 0 ≤ μ.1 18 := by have := hr.1; have := hr.2.1; omega
  obtain ⟨x1, x2, x3, x4⟩ := rAdc (t := 1) (n := μ.2 7 (μ.2 19 r.toNat).toNat) (x := 0) (y := 0) (z := 0) m1 m2 m3 (by decide) (by decide) (mk_t1 m7 ⟨m5.1, by have := hr.2.1; omega⟩ m6 ⟨f0, f1⟩ f2 f4 (by show g 1 (μ.2 20 r.toNat) < _; omega)) (dy_0 (by decide) (by decide) (by decide)) m4
  obtain ⟨z0, z18, z19, z20, -, -, -⟩ := zrow_n (μ := μ) (t := 1) (n := μ.2 7 (μ.2 19 r.toNat).toNat) (m := μ.2 20 r.toNat) (x := 0) (y := 0) (z := 0)
  have hperf : zMod_perform N r μ = some (μ.1 18, zrow μ 1 (μ.2 7 (μ.2 19 r.toNat).toNat) (μ.2 20 r.toNat) 0 0 0) := by
    rw [zQ_0 hr.1 hR.2 ht, zD_1 n0 (by omega) hk, zrow_e hR0 (by omega)]
  refine ⟨_, _, _, zMs_of hperf hr.1 hR.2 (by omega) hR0, ⟨x1, x2, ?_, b3, x4, x3, ?_, ?_, ?_, ?_⟩, fM_row, ?_, ?_⟩
  · rw [gup_0.1, ← f3]; exact b2
  · rw [gup_0.2.2.2.2]; show g 4 (μ.2 20 r.toNat) ≤ μ.1 11; omega
  · rw [gup_0.2.2.1]
    have h0 : rSl μ r = 4 := by unfold rSl; rw [if_neg (by omega), if_pos (Or.inr ⟨ht, hk⟩)]
    have h1 : rSl (zrow μ 1 (μ.2 7 (μ.2 19 r.toNat).toNat) (μ.2 20 r.toNat) 0 0 0) (μ.1 18) = 4 := by unfold rSl; rw [z18, if_neg (by decide), if_pos (Or.inl rfl)]
    show σ.1 23 + 3 * g 2 (μ.2 20 r.toNat) + zps (σ.2 18) 20 ≤ 4 * μ.1 16 + _
    omega
  · have h0 : rEx μ r = 4 := by unfold rEx; rw [if_pos ht, if_pos hk]
    have h1 : rEx (zrow μ 1 (μ.2 7 (μ.2 19 r.toNat).toNat) (μ.2 20 r.toNat) 0 0 0) (μ.1 18) = 5 := by unfold rEx; rw [z18, if_neg (by decide), if_pos rfl]
    rw [z0]
    show μ.1 18 + 1 ≤ 7 * μ.1 16 + 2 + _
    omega
  · rw [gup_0.2.2.2.1]
    show μ.1 19 ≤ μ.1 16 + g 3 (μ.2 20 r.toNat)
    omega
  · unfold adm; rw [z18]; simp
  · unfold adm
    rw [z18, if_neg (by decide), if_neg (by decide), if_pos rfl, if_neg (by omega), if_pos ht, if_pos hk]
    omega
/-- over a plain parenthesis's end -/
theorem st_pe (h : rI σ μ en fin lv ow gw kw ia g r p) (hk : σ.2 1 p.toNat = 18) : oB N σ μ en fin lv ow gw kw ia g r p := by
  obtain ⟨hr, hp, h8, hR, hg, hC, hP, hT, hF⟩ := rBd h
  obtain ⟨hA, b1, b2, b3⟩ := id h
  obtain ⟨q0, q1, q2⟩ := rPn hA.1 hA.2.2.2.2.1 (r.toNat + 1) r (by omega) hr
  obtain ⟨u1, u2, u3⟩ := zpx_up b2 hk q2
  have hI : rI σ μ en fin lv ow gw kw ia g r (σ.2 2 p.toNat) := ⟨hA, b1, u1, b3⟩
  have hp' := (rBd hI).2.1
  refine ⟨_, zCs_of (zP_17 hp.1 hp.2 (Or.inr hk)) hp.1 (by omega), hI, ?_⟩
  have := (hh_end hA.1.2.2.2.2.2 u2 u3 (Or.inr (Or.inl hk))).1
  unfold Mc
  omega
end OV
