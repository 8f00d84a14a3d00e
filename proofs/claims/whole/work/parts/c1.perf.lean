/-! what the class does at a node, what the reference does at a row: one line for each kind -/
theorem bind_id {α : Type} (x : Option (α × z_S)) : (x.bind fun q => some (q.1, q.2)) = x := by cases x <;> rfl
section PF
variable {N : Nat} {p : Int} {σ : z_S}
theorem zP_rd (h0 : 0 ≤ p) (h1 : p < 602) : zRows_read N 1 p σ = some (σ.2 1 p.toNat, σ) ∧ zRows_read N 2 p σ = some (σ.2 2 p.toNat, σ) ∧ zRows_read N 3 p σ = some (σ.2 3 p.toNat, σ) :=
  ⟨zrr (by decide) h0 (by show p < (602 : Int); omega), zrr (by decide) h0 (by show p < (602 : Int); omega), zrr (by decide) h0 (by show p < (602 : Int); omega)⟩
theorem zP_0 (h0 : 0 ≤ p) (h1 : p < 602) (hk : σ.2 1 p.toNat = 0) : zMachine_perform N p σ = some (-1, σ) := by
  obtain ⟨r1, r2, r3⟩ := zP_rd (N := N) (σ := σ) h0 h1
  simp only [zMachine_perform_u, r1, r2, r3, Option.bind_some, hk, if_true]
theorem zP_no (h0 : 0 ≤ p) (h1 : p < 602) (hk : 1 ≤ σ.2 1 p.toNat) (hk2 : σ.2 1 p.toNat ≤ 12) (hs : ¬ σ.1 27 < σ.1 25) : zMachine_perform N p σ = some (-3, σ) := by
  obtain ⟨r1, r2, r3⟩ := zP_rd (N := N) (σ := σ) h0 h1
  have a1 : ¬ σ.2 1 p.toNat = 0 := by omega
  have a2 : ¬ 12 < σ.2 1 p.toNat := by omega
  simp only [zMachine_perform_u, r1, r2, r3, Option.bind_some, if_neg a1, if_neg a2, zstep_no hs, if_true]
theorem zP_unit (h0 : 0 ≤ p) (h1 : p < 602) (hk : 1 ≤ σ.2 1 p.toNat) (hk2 : σ.2 1 p.toNat ≤ 5) (hs : σ.1 27 < σ.1 25) (hs0 : 0 ≤ σ.1 27) (hs1 : σ.1 25 ≤ 10000) : zMachine_perform N p σ =
    (zMachine_takesUnit N (σ.2 1 p.toNat) (σ.2 3 p.toNat) p (zF σ 27 (σ.1 27 + 1))).bind fun q => if q.1 = 0 then some (-2, q.2) else some (σ.2 2 p.toNat, q.2) := by
  obtain ⟨r1, r2, r3⟩ := zP_rd (N := N) (σ := σ) h0 h1
  have a1 : ¬ σ.2 1 p.toNat = 0 := by omega
  have a2 : ¬ 12 < σ.2 1 p.toNat := by omega
  have a3 : ¬ 5 < σ.2 1 p.toNat := by omega
  simp only [zMachine_perform_u, r1, r2, r3, Option.bind_some, if_neg a1, if_neg a2, if_neg a3, zstep hs hs0 hs1, Int.reduceEq, if_false]
theorem zP_pass (h0 : 0 ≤ p) (h1 : p < 602) (hk : 6 ≤ σ.2 1 p.toNat) (hk2 : σ.2 1 p.toNat ≤ 10) (hs : σ.1 27 < σ.1 25) (hs0 : 0 ≤ σ.1 27) (hs1 : σ.1 25 ≤ 10000) : zMachine_perform N p σ =
    (zMachine_passes N (σ.2 1 p.toNat) (σ.2 3 p.toNat) (zF σ 27 (σ.1 27 + 1))).bind fun q => if q.1 = 0 then some (-2, q.2) else some (σ.2 2 p.toNat, q.2) := by
  obtain ⟨r1, r2, r3⟩ := zP_rd (N := N) (σ := σ) h0 h1
  have a1 : ¬ σ.2 1 p.toNat = 0 := by omega
  have a2 : ¬ 12 < σ.2 1 p.toNat := by omega
  have a3 : 5 < σ.2 1 p.toNat := by omega
  have a4 : ¬ 10 < σ.2 1 p.toNat := by omega
  simp only [zMachine_perform_u, r1, r2, r3, Option.bind_some, if_neg a1, if_neg a2, if_pos a3, if_neg a4, zstep hs hs0 hs1, Int.reduceEq, if_false]
theorem zP_11 (h0 : 0 ≤ p) (h1 : p < 602) (hk : σ.2 1 p.toNat = 11) (hs : σ.1 27 < σ.1 25) (hs0 : 0 ≤ σ.1 27) (hs1 : σ.1 25 ≤ 10000) (hc0 : 0 ≤ σ.1 22) (hc1 : σ.1 22 < 10100) : zMachine_perform N p σ =
    some (σ.2 2 p.toNat, if σ.2 3 p.toNat = -1 then zF σ 27 (σ.1 27 + 1) else zch (zF σ 27 (σ.1 27 + 1)) (σ.2 3 p.toNat)) := by
  obtain ⟨r1, r2, r3⟩ := zP_rd (N := N) (σ := σ) h0 h1
  simp only [zMachine_perform_u, r1, r2, r3, Option.bind_some, hk, zstep hs hs0 hs1, Int.reduceEq, Int.reduceLT, if_false, if_true]
  by_cases e : σ.2 3 p.toNat = -1
  · rw [if_pos e, if_pos e]
  · rw [if_neg e, if_neg e, zch_e (σ := zF σ 27 (σ.1 27 + 1)) hc0 hc1]; rfl
theorem zP_12 (h0 : 0 ≤ p) (h1 : p < 602) (hk : σ.2 1 p.toNat = 12) (hs : σ.1 27 < σ.1 25) (hs0 : 0 ≤ σ.1 27) (hs1 : σ.1 25 ≤ 10000) (hn0 : 0 ≤ σ.2 3 p.toNat) (hn1 : σ.2 3 p.toNat < 100) : zMachine_perform N p σ =
    (zMachine_setCell N (63 + σ.2 3 p.toNat) 0 (zF σ 27 (σ.1 27 + 1))).bind fun q => zMachine_goOnOrEnd N (σ.2 3 p.toNat) 0 q.2 := by
  obtain ⟨r1, r2, r3⟩ := zP_rd (N := N) (σ := σ) h0 h1
  simp only [zMachine_perform_u, r1, r2, r3, Option.bind_some, hk, zstep hs hs0 hs1, Int.reduceEq, Int.reduceLT, if_false, if_true]
  rw [if_pos (show zin (63 + σ.2 3 p.toNat) from ⟨by omega, by omega⟩)]
  congr 1
  funext q
  exact bind_id _
theorem zP_13 (h0 : 0 ≤ p) (h1 : p < 602) (hk : σ.2 1 p.toNat = 13) : zMachine_perform N p σ = (zMachine_enterRepetition N (σ.2 3 p.toNat) σ).bind fun q => some (σ.2 2 p.toNat, q.2) := by
  obtain ⟨r1, r2, r3⟩ := zP_rd (N := N) (σ := σ) h0 h1
  simp only [zMachine_perform_u, r1, r2, r3, Option.bind_some, hk, Int.reduceEq, Int.reduceLT, if_false, if_true]
theorem zP_14 (h0 : 0 ≤ p) (h1 : p < 602) (hk : σ.2 1 p.toNat = 14) : zMachine_perform N p σ = zMachine_endRepetition N (σ.2 3 p.toNat) σ := by
  obtain ⟨r1, r2, r3⟩ := zP_rd (N := N) (σ := σ) h0 h1
  simp only [zMachine_perform_u, r1, r2, r3, Option.bind_some, hk, Int.reduceEq, Int.reduceLT, if_false, if_true]
  exact bind_id _
theorem zP_15 (h0 : 0 ≤ p) (h1 : p < 602) (hk : σ.2 1 p.toNat = 15) (hn0 : 0 ≤ σ.2 3 p.toNat) (hn1 : σ.2 3 p.toNat ≤ 20) : zMachine_perform N p σ = (zMachine_setCell N (42 + σ.2 3 p.toNat) (σ.1 24) σ).bind fun q => some (σ.2 2 p.toNat, q.2) := by
  obtain ⟨r1, r2, r3⟩ := zP_rd (N := N) (σ := σ) h0 h1
  simp only [zMachine_perform_u, r1, r2, r3, Option.bind_some, hk, Int.reduceEq, Int.reduceLT, if_false, if_true]
  rw [if_pos (show zin (42 + σ.2 3 p.toNat) from ⟨by omega, by omega⟩)]
theorem zP_16 (h0 : 0 ≤ p) (h1 : p < 602) (hk : σ.2 1 p.toNat = 16) (hn0 : 0 ≤ σ.2 3 p.toNat) (hn1 : σ.2 3 p.toNat ≤ 20) : zMachine_perform N p σ =
    (zMachine_setCell N (σ.2 3 p.toNat) (σ.2 18 (42 + σ.2 3 p.toNat).toNat) σ).bind fun q => (zMachine_setCell N (21 + σ.2 3 p.toNat) (q.2.1 24) q.2).bind fun q => some (σ.2 2 p.toNat, q.2) := by
  obtain ⟨r1, r2, r3⟩ := zP_rd (N := N) (σ := σ) h0 h1
  simp only [zMachine_perform_u, r1, r2, r3, Option.bind_some, hk, Int.reduceEq, Int.reduceLT, if_false, if_true]
  rw [if_pos (show zin (42 + σ.2 3 p.toNat) from ⟨by omega, by omega⟩), zrr (by decide) (by omega) (by show _ < (263 : Int); omega)]
  simp only [Option.bind_some]
  rw [if_pos (show zin (0 + σ.2 3 p.toNat) from ⟨by omega, by omega⟩), Int.zero_add]
  congr 1
  funext q
  rw [if_pos (show zin (21 + σ.2 3 p.toNat) from ⟨by omega, by omega⟩)]
theorem zP_17 (h0 : 0 ≤ p) (h1 : p < 602) (hk : σ.2 1 p.toNat = 17 ∨ σ.2 1 p.toNat = 18) : zMachine_perform N p σ = some (σ.2 2 p.toNat, σ) := by
  obtain ⟨r1, r2, r3⟩ := zP_rd (N := N) (σ := σ) h0 h1
  rcases hk with hk | hk <;> simp only [zMachine_perform_u, r1, r2, r3, Option.bind_some, hk, Int.reduceEq, Int.reduceLT, if_false, if_true]
theorem zP_19 (h0 : 0 ≤ p) (h1 : p < 602) (hk : σ.2 1 p.toNat = 19 ∨ σ.2 1 p.toNat = 21) : zMachine_perform N p σ = (zMachine_beginLook N (σ.2 1 p.toNat) (σ.2 3 p.toNat) p σ).bind fun q => some (σ.2 2 p.toNat, q.2) := by
  obtain ⟨r1, r2, r3⟩ := zP_rd (N := N) (σ := σ) h0 h1
  rcases hk with hk | hk <;> simp only [zMachine_perform_u, r1, r2, r3, Option.bind_some, hk, Int.reduceEq, Int.reduceLT, if_false, if_true]
theorem zP_20 (h0 : 0 ≤ p) (h1 : p < 602) (hk : σ.2 1 p.toNat = 20) (hn0 : 0 ≤ σ.2 3 p.toNat) (hn1 : σ.2 3 p.toNat < 50) : zMachine_perform N p σ = some (σ.2 2 p.toNat, zF (zF σ 22 (σ.2 23 (σ.2 3 p.toNat).toNat)) 24 (σ.2 24 (σ.2 3 p.toNat).toNat)) := by
  obtain ⟨r1, r2, r3⟩ := zP_rd (N := N) (σ := σ) h0 h1
  simp only [zMachine_perform_u, r1, r2, r3, Option.bind_some, hk, Int.reduceEq, Int.reduceLT, if_false, if_true]
  rw [zrr (by decide) hn0 (by show _ < (50 : Int); omega)]
  simp only [Option.bind_some]
  rw [zrr (by decide) hn0 (by show _ < (50 : Int); omega)]
  rfl
theorem zP_22 (h0 : 0 ≤ p) (h1 : p < 602) (hk : σ.2 1 p.toNat = 22) (hn0 : 0 ≤ σ.2 3 p.toNat) (hn1 : σ.2 3 p.toNat < 50) : zMachine_perform N p σ = some (-2, zF σ 22 (σ.2 23 (σ.2 3 p.toNat).toNat)) := by
  obtain ⟨r1, r2, r3⟩ := zP_rd (N := N) (σ := σ) h0 h1
  simp only [zMachine_perform_u, r1, r2, r3, Option.bind_some, hk, Int.reduceEq, Int.reduceLT, if_false, if_true]
  rw [zrr (by decide) hn0 (by show _ < (50 : Int); omega)]
  rfl
end PF
section PM
variable {N : Nat} {r : Int} {μ : z_S}
theorem zQ_0 (h0 : 0 ≤ r) (h1 : r < 90000) (ht : μ.2 18 r.toNat = 0) : zMod_perform N r μ = zMod_doNode N (μ.2 19 r.toNat) (μ.2 20 r.toNat) μ := by
  rw [zMod_perform_u, if_pos ⟨h0, by omega⟩, if_pos ht, if_pos ⟨h0, by omega⟩, bind_id]
theorem zQ_1 (h0 : 0 ≤ r) (h1 : r < 90000) (ht : μ.2 18 r.toNat = 1) (n0 : 0 ≤ μ.2 19 r.toNat) (n1 : μ.2 19 r.toNat < 1300) (hb : 0 ≤ μ.2 9 (μ.2 19 r.toNat).toNat) : zMod_perform N r μ =
    (zMod_row N 1 (μ.2 9 (μ.2 19 r.toNat).toNat) (μ.2 20 r.toNat) 0 0 0 μ).bind fun q => (zMod_push N q.1 (q.2.1 11) 0 q.2).bind fun q => (zMod_spends N q.2).bind fun q => if q.1 = 0 then some (-2, q.2) else zMod_row N 2 (q.2.2 7 (μ.2 19 r.toNat).toNat) (q.2.2 20 r.toNat) 0 0 0 q.2 := by
  have a : zIn r 90000 := ⟨h0, by omega⟩
  have b : zIn (μ.2 19 r.toNat) 1300 := ⟨n0, by omega⟩
  have c : ¬ μ.2 9 (μ.2 19 r.toNat).toNat < 0 := by omega
  simp only [zMod_perform_u, if_pos a, if_pos b, ht, if_neg c, Int.reduceEq, if_false, if_true, bind_id]
theorem zQ_1n (h0 : 0 ≤ r) (h1 : r < 90000) (ht : μ.2 18 r.toNat = 1) (n0 : 0 ≤ μ.2 19 r.toNat) (n1 : μ.2 19 r.toNat < 1300) (hb : μ.2 9 (μ.2 19 r.toNat).toNat < 0) : zMod_perform N r μ =
    (zMod_spends N μ).bind fun q => if q.1 = 0 then some (-2, q.2) else zMod_row N 2 (q.2.2 7 (μ.2 19 r.toNat).toNat) (q.2.2 20 r.toNat) 0 0 0 q.2 := by
  have a : zIn r 90000 := ⟨h0, by omega⟩
  have b : zIn (μ.2 19 r.toNat) 1300 := ⟨n0, by omega⟩
  simp only [zMod_perform_u, if_pos a, if_pos b, ht, if_pos hb, Int.reduceEq, if_false, if_true, bind_id]
theorem zQ_2 (h0 : 0 ≤ r) (h1 : r < 90000) (ht : μ.2 18 r.toNat = 2) (n0 : 0 ≤ μ.2 19 r.toNat) (n1 : μ.2 19 r.toNat < 1300) : zMod_perform N r μ =
    (zMod_row N 2 (μ.2 9 (μ.2 19 r.toNat).toNat) (μ.2 20 r.toNat) 0 0 0 μ).bind fun q => zMod_row N 0 (μ.2 19 r.toNat) q.1 0 0 0 q.2 := by
  have a : zIn r 90000 := ⟨h0, by omega⟩
  have b : zIn (μ.2 19 r.toNat) 1300 := ⟨n0, by omega⟩
  simp only [zMod_perform_u, if_pos a, if_pos b, ht, if_pos n0, Int.reduceEq, if_false, if_true, bind_id]
theorem zQ_2n (h0 : 0 ≤ r) (h1 : r < 90000) (ht : μ.2 18 r.toNat = 2) (n0 : μ.2 19 r.toNat < 0) : zMod_perform N r μ = some (μ.2 20 r.toNat, μ) := by
  have a : zIn r 90000 := ⟨h0, by omega⟩
  have b : ¬ 0 ≤ μ.2 19 r.toNat := by omega
  simp only [zMod_perform_u, if_pos a, ht, if_neg b, Int.reduceEq, if_false, if_true]
theorem zQ_3 (h0 : 0 ≤ r) (h1 : r < 90000) (ht : μ.2 18 r.toNat = 3) (n0 : 0 ≤ μ.2 19 r.toNat) (n1 : μ.2 19 r.toNat < 1300) (k0 : 0 ≤ μ.2 4 (μ.2 19 r.toNat).toNat) (k1 : μ.2 4 (μ.2 19 r.toNat).toNat ≤ 20) : zMod_perform N r μ =
    some (μ.2 20 r.toNat, zA (zA μ 17 (2 * μ.2 4 (μ.2 19 r.toNat).toNat).toNat (μ.2 21 r.toNat)) 17 (2 * μ.2 4 (μ.2 19 r.toNat).toNat + 1).toNat (μ.1 11)) := by
  have a : zIn r 90000 := ⟨h0, by omega⟩
  have b : zIn (μ.2 19 r.toNat) 1300 := ⟨n0, by omega⟩
  have c1 : zin (2 * μ.2 4 (μ.2 19 r.toNat).toNat) := ⟨by omega, by omega⟩
  have c2 : zin (2 * μ.2 4 (μ.2 19 r.toNat).toNat + 1) := ⟨by omega, by omega⟩
  have c3 : zIn (2 * μ.2 4 (μ.2 19 r.toNat).toNat) 42 := ⟨by omega, by omega⟩
  have c4 : zIn (2 * μ.2 4 (μ.2 19 r.toNat).toNat + 1) 42 := ⟨by omega, by omega⟩
  simp only [zMod_perform_u, if_pos a, if_pos b, ht, if_pos c1, if_pos c2, if_pos c3, if_pos c4, Int.reduceEq, if_false, if_true]
theorem zQ_4 (h0 : 0 ≤ r) (h1 : r < 90000) (ht : μ.2 18 r.toNat = 4) : zMod_perform N r μ = zMod_round N r μ := by
  have a : zIn r 90000 := ⟨h0, by omega⟩
  simp only [zMod_perform_u, if_pos a, ht, Int.reduceEq, if_false, if_true, bind_id]
theorem zQ_5 (h0 : 0 ≤ r) (h1 : r < 90000) (ht : μ.2 18 r.toNat = 5) : zMod_perform N r μ = zMod_anew N r μ := by
  have a : zIn r 90000 := ⟨h0, by omega⟩
  simp only [zMod_perform_u, if_pos a, ht, Int.reduceEq, if_false, if_true, bind_id]
theorem zQ_6 (h0 : 0 ≤ r) (h1 : r < 90000) (ht : μ.2 18 r.toNat = 6) : zMod_perform N r μ = zMod_endRound N r μ := by
  have a : zIn r 90000 := ⟨h0, by omega⟩
  simp only [zMod_perform_u, if_pos a, ht, Int.reduceEq, if_false, if_true, bind_id]
theorem zQ_7 (h0 : 0 ≤ r) (h1 : r < 90000) (ht : μ.2 18 r.toNat = 7) : zMod_perform N r μ = zMod_endLook N r μ := by
  have a : zIn r 90000 := ⟨h0, by omega⟩
  simp only [zMod_perform_u, if_pos a, ht, Int.reduceEq, if_false, bind_id]
variable {n m : Int}
theorem zD_1 (n0 : 0 ≤ n) (n1 : n < 1300) (hk : μ.2 3 n.toNat = 1) : zMod_doNode N n m μ = zMod_row N 1 (μ.2 7 n.toNat) m 0 0 0 μ := by
  have a : zIn n 1300 := ⟨n0, by omega⟩
  simp only [zMod_doNode_u, if_pos a, hk, Int.reduceEq, if_false, if_true, bind_id]
theorem zD_12 (n0 : 0 ≤ n) (n1 : n < 1300) (hk : μ.2 3 n.toNat = 12) : zMod_doNode N n m μ = (zMod_row N 3 n m (μ.1 11) 0 0 μ).bind fun q => zMod_row N 0 (μ.2 7 n.toNat) q.1 0 0 0 q.2 := by
  have a : zIn n 1300 := ⟨n0, by omega⟩
  simp only [zMod_doNode_u, if_pos a, hk, Int.reduceEq, if_false, if_true, bind_id]
theorem zD_13 (n0 : 0 ≤ n) (n1 : n < 1300) (hk : μ.2 3 n.toNat = 13) : zMod_doNode N n m μ = zMod_row N 0 (μ.2 7 n.toNat) m 0 0 0 μ := by
  have a : zIn n 1300 := ⟨n0, by omega⟩
  simp only [zMod_doNode_u, if_pos a, hk, Int.reduceEq, if_false, if_true, bind_id]
theorem zD_14 (n0 : 0 ≤ n) (n1 : n < 1300) (hk : μ.2 3 n.toNat = 14 ∨ μ.2 3 n.toNat = 15) : zMod_doNode N n m μ = (zMod_push N m (μ.1 11) (μ.2 3 n.toNat - 13) μ).bind fun q => (zMod_row N 7 n m (q.2.1 11) (q.2.1 19) 0 q.2).bind fun q' => zMod_row N 0 (q.2.2 7 n.toNat) q'.1 0 0 0 q'.2 := by
  have a : zIn n 1300 := ⟨n0, by omega⟩
  rcases hk with hk | hk <;> simp only [zMod_doNode_u, if_pos a, hk, Int.reduceEq, Int.reduceSub, if_false, if_true, bind_id]
theorem zD_16 (n0 : 0 ≤ n) (n1 : n < 1300) (hk : μ.2 3 n.toNat = 16) : zMod_doNode N n m μ = zMod_row N 4 n m (μ.2 4 n.toNat) (μ.2 5 n.toNat) 0 μ := by
  have a : zIn n 1300 := ⟨n0, by omega⟩
  simp only [zMod_doNode_u, if_pos a, hk, Int.reduceEq, if_false, if_true, bind_id]
theorem zD_3 (n0 : 0 ≤ n) (n1 : n < 1300) (hk : 3 ≤ μ.2 3 n.toNat) (hk2 : μ.2 3 n.toNat ≤ 11) : zMod_doNode N n m μ = (zMod_spends N μ).bind fun q => if q.1 = 0 then some (-2, q.2) else (zMod_holds N n q.2).bind fun q => if q.1 = 0 then some (-1, q.2) else some (m, q.2) := by
  have a : zIn n 1300 := ⟨n0, by omega⟩
  have b1 : ¬ μ.2 3 n.toNat = 1 := by omega
  have b2 : ¬ μ.2 3 n.toNat = 12 := by omega
  have b3 : ¬ μ.2 3 n.toNat = 13 := by omega
  have b4 : ¬ μ.2 3 n.toNat = 14 := by omega
  have b5 : ¬ μ.2 3 n.toNat = 15 := by omega
  have b6 : ¬ μ.2 3 n.toNat = 16 := by omega
  simp only [zMod_doNode_u, if_pos a, if_neg b1, if_neg b2, if_neg b3, if_neg b4, if_neg b5, if_neg b6]
end PM
