/-! one turn of the two loops; what it costs -/
def hh (σ : z_S) (lv ow : Int → Int) (p : Int) : Int :=
  if pEnd σ p then 100 + (if lv (ow p) < 0 then 0 else if 45 < lv (ow p) then 45 else lv (ow p)) else if σ.2 1 p.toNat = 13 then 90 else if σ.2 1 p.toNat = 14 then 95 else if σ.2 1 p.toNat = 15 ∨ σ.2 1 p.toNat = 17 ∨ σ.2 1 p.toNat = 19 ∨ σ.2 1 p.toNat = 21 then 80 else 0
def Mc (σ : z_S) (lv ow : Int → Int) (p : Int) : Int := 300 * (σ.1 25 - σ.1 27) + 60 * σ.1 22 + hh σ lv ow p
theorem hh_cut (σ : z_S) (lv ow : Int → Int) (p : Int) : hh (cutC σ) lv ow p = hh σ lv ow p := rfl
theorem hh_mv {σ σ' : z_S} {lv ow : Int → Int} {p : Int} (h : cutC σ' = cutC σ) : hh σ' lv ow p = hh σ lv ow p := by rw [← hh_cut, h, hh_cut]
theorem hh_bd (σ : z_S) (lv ow : Int → Int) (p : Int) : 0 ≤ hh σ lv ow p ∧ hh σ lv ow p ≤ 145 := by unfold hh; grind (splits := 25)
/-- from a parenthesis's end it costs less to go on -/
theorem hh_end {σ μ : z_S} {en lv ow : Int → Int} {p : Int} (h : pCls σ μ en lv ow) (h0 : 0 ≤ p) (h1 : p < σ.1 4) (hk : pEnd σ p) : hh σ lv ow (σ.2 2 p.toNat) < hh σ lv ow p ∧ 100 ≤ hh σ lv ow p := by
  obtain ⟨c1, c2⟩ := h.2.2 p h0 h1 hk
  have e : hh σ lv ow p = 100 + lv (ow p) := by
    unfold hh
    rw [if_pos hk, if_neg (by omega), if_neg (by omega)]
  rw [e]
  refine ⟨?_, by omega⟩
  by_cases q : pEnd σ (σ.2 2 p.toNat)
  · obtain ⟨c3, c4⟩ := c2 q
    unfold hh
    rw [if_pos q, if_neg (by omega), if_neg (by omega)]
    omega
  · have : hh σ lv ow (σ.2 2 p.toNat) ≤ 95 := by
      unfold hh
      rw [if_neg q]
      split
      · omega
      · split
        · omega
        · split <;> omega
    omega
theorem hh_lo {σ : z_S} {lv ow : Int → Int} {p : Int} (h : σ.2 1 p.toNat ≤ 12) : hh σ lv ow p = 0 := by
  unfold hh pEnd
  rw [if_neg (by omega), if_neg (by omega), if_neg (by omega), if_neg (by omega)]
theorem hh_op {σ : z_S} {lv ow : Int → Int} {p : Int} (h : σ.2 1 p.toNat = 15 ∨ σ.2 1 p.toNat = 17 ∨ σ.2 1 p.toNat = 19 ∨ σ.2 1 p.toNat = 21) : hh σ lv ow p = 80 := by
  unfold hh pEnd
  rw [if_neg (by omega), if_neg (by omega), if_neg (by omega), if_pos h]
theorem hh_13 {σ : z_S} {lv ow : Int → Int} {p : Int} (h : σ.2 1 p.toNat = 13) : hh σ lv ow p = 90 := by
  unfold hh pEnd
  rw [if_neg (by omega), if_pos h]
theorem hh_14 {σ : z_S} {lv ow : Int → Int} {p : Int} (h : σ.2 1 p.toNat = 14) : hh σ lv ow p = 95 := by
  unfold hh pEnd
  rw [if_neg (by omega), if_neg (by omega), if_pos h]
def adm (μ : z_S) (r : Int) : Int := if μ.2 18 r.toNat = 2 then (if μ.2 19 r.toNat < 0 then 10 + r else 9) else if μ.2 18 r.toNat = 0 then (if μ.2 3 (μ.2 19 r.toNat).toNat = 1 then 7 else 6) else if μ.2 18 r.toNat = 1 then 5 else 0
abbrev fC (σ σ' : z_S) : Prop := zfr [22, 23, 24, 27] [18, 19, 20, 21, 22, 23, 24] σ σ'
abbrev fM (μ μ' : z_S) : Prop := zfr [11, 16, 18, 19] [17, 18, 19, 20, 21, 22, 23, 24, 25, 26, 27] μ μ'
def zCs (N : Nat) (σ : z_S) (p : Int) (σ' : z_S) (p' : Int) : Prop := ∀ (n : Nat) (w x : Int), 0 ≤ x → x < 4000000 → zMachine_tryAt_l44 N (n + 1) w p x σ = zMachine_tryAt_l44 N n w p' (x + 1) σ'
def zCf (N : Nat) (σ : z_S) (p : Int) (σ' : z_S) : Prop := ∀ (n : Nat) (w x : Int), 0 ≤ x → x < 4000000 → zMachine_tryAt_l44 N (n + 1) w p x σ = (zMachine_nextChoice N σ').bind fun q => zMachine_tryAt_l44 N n w q.1 (x + 1) q.2
def zMs (N k : Nat) (μ : z_S) (r : Int) (μ' : z_S) (r' : Int) : Prop := ∀ (n : Nat) (w : Int), zMod_tryAt_l57 N (n + k) w r μ = zMod_tryAt_l57 N n w r' μ'
def zMf (N k : Nat) (μ : z_S) (r : Int) (μ' : z_S) : Prop := ∀ (n : Nat) (w : Int), zMod_tryAt_l57 N (n + k) w r μ = (zMod_pop N μ').bind fun q => zMod_tryAt_l57 N n w q.1 q.2
def zMo (N k : Nat) (μ : z_S) (r : Int) (μ' : z_S) : Prop := ∀ (n : Nat) (w : Int), zMod_tryAt_l57 N (n + k) w r μ = some (2, μ')
section LO
variable {N : Nat} {σ σ' μ μ' : z_S} {p p' r r' : Int}
theorem zCs_of (h : zMachine_perform N p σ = some (p', σ')) (hp : 0 ≤ p) (hp' : p' ≠ -2) : zCs N σ p σ' p' := fun n w x h0 h1 => by
  rw [zMachine_tryAt_l44_s, if_neg (by omega), if_neg (by omega), h]
  simp only [Option.bind_some]
  rw [if_neg hp', if_pos (show zin (x + 1) from ⟨by omega, by omega⟩)]
theorem zCf_of (h : zMachine_perform N p σ = some (-2, σ')) (hp : 0 ≤ p) : zCf N σ p σ' := fun n w x h0 h1 => by
  rw [zMachine_tryAt_l44_s, if_neg (by omega), if_neg (by omega), h]
  simp only [Option.bind_some, if_true]
  congr 1
  funext q
  rw [if_pos (show zin (x + 1) from ⟨by omega, by omega⟩)]
theorem zMs_of (h : zMod_perform N r μ = some (r', μ')) (h0 : 0 ≤ r) (h1 : r < 90000) (ht : μ.2 18 r.toNat ≠ 8) (hr' : 0 ≤ r') : zMs N 1 μ r μ' r' := fun n w => by
  rw [zMod_tryAt_l57_s, if_neg (by omega), if_pos (show zIn r 90000 from ⟨h0, by omega⟩), if_neg ht, h]
  simp only [Option.bind_some]
  rw [if_neg (by omega), if_neg (by omega)]
theorem zMf_of (h : zMod_perform N r μ = some (-1, μ')) (h0 : 0 ≤ r) (h1 : r < 90000) (ht : μ.2 18 r.toNat ≠ 8) : zMf N 1 μ r μ' := fun n w => by
  rw [zMod_tryAt_l57_s, if_neg (by omega), if_pos (show zIn r 90000 from ⟨h0, by omega⟩), if_neg ht, h]
  simp only [Option.bind_some, if_true]
theorem zMo_of (h : zMod_perform N r μ = some (-2, μ')) (h0 : 0 ≤ r) (h1 : r < 90000) (ht : μ.2 18 r.toNat ≠ 8) : zMo N 1 μ r μ' := fun n w => by
  rw [zMod_tryAt_l57_s, if_neg (by omega), if_pos (show zIn r 90000 from ⟨h0, by omega⟩), if_neg ht, h]
  simp only [Option.bind_some, if_true, Int.reduceEq, if_false]
theorem zMs_tr {k : Nat} {μ2 : z_S} {r2 : Int} (h : zMs N 1 μ r μ' r') (g : zMs N k μ' r' μ2 r2) : zMs N (k + 1) μ r μ2 r2 := fun n w => (h (n + k) w).trans (g n w)
theorem zMo_tr {k : Nat} {μ2 : z_S} (h : zMs N 1 μ r μ' r') (g : zMo N k μ' r' μ2) : zMo N (k + 1) μ r μ2 := fun n w => (h (n + k) w).trans (g n w)
end LO
section LB
variable {σ σ' μ μ' : z_S} {en fin lv ow gw kw : Int → Int} {ia : Int → Prop} {g g' : Nat → Int → Int} {r r' m : Int}
/-- a row that the row on leads to, or that leads to it -/
def rB (σ μ : z_S) (en : Int → Int) (r m : Int) : Prop := rV μ m ∧ rLks σ μ en m ∧ rSub μ r m ∧ rSub μ m r
theorem rB_next (hA : rAll σ μ en fin lv ow gw kw ia g r) (hr : rV μ r) (hl : rLks σ μ en r) (h7 : μ.2 18 r.toNat ≠ 7) : rB σ μ en r (μ.2 20 r.toNat) :=
  ⟨(rOK_next (hA.2.2.2.2.1 r hr.1 hr.2.1) hr.1 hr.2.1 hr.2.2).1, rLks_next hl, rSub_cons h7, rSub_next⟩
/-- a new row, and what stands upon it -/
theorem rAdd (hA : rAll σ μ en fin lv ow gw kw ia g r) (hr : rV μ r) (hm : rB σ μ en r m) {t n x y z a0 a1 a2 a3 a4 : Int} (t4 : t ≠ 4) (t7 : t ≠ 7)
    (hnew : rOKd σ μ en fin lv ia (μ.1 7) t n m x (μ.2 18 m.toNat) (μ.1 18) (fun j => if j = 0 then a0 else if j = 1 then a1 else if j = 2 then a2 else if j = 3 then a3 else a4) (fun j => g j m))
    {c : Nat → Int} {T : Int} (hdyn : rDynd σ μ en c T t n x y z) (hli : rLive σ μ en c T m) :
    rAll σ (zrow μ t n m x y z) en fin lv ow gw kw ia (gup g (μ.1 18) a0 a1 a2 a3 a4) r ∧ rV (zrow μ t n m x y z) r ∧ rB σ (zrow μ t n m x y z) en r (μ.1 18) ∧ rLive σ (zrow μ t n m x y z) en c T (μ.1 18) ∧ oAg (μ.1 18) μ (zrow μ t n m x y z) := by
  have hp : 0 ≤ μ.1 18 := by have := hA.2.2.2.1.2.2.2.2.2.2.1; omega
  have ho : oAg (μ.1 18) μ (zrow μ t n m x y z) := zrow_ag hp
  obtain ⟨z0, z18, z19, z20, z21, z22, z23⟩ := zrow_at (μ := μ) (a := t) (b := n) (c := m) (d := x) (e := y) (f := z)
  have hA5 := hA.2.2.2.2.1
  have e18 : (zrow μ t n m x y z).2 18 (μ.1 18).toNat = t := by rw [z18, zupd_s]
  have e20 : (zrow μ t n m x y z).2 20 (μ.1 18).toNat = m := by rw [z20, zupd_s]
  obtain ⟨m1, m2, m3, m4⟩ := hm
  have hr2 : rV (zrow μ t n m x y z) r := ⟨hr.1, by rw [z0]; have := hr.2.1; omega, by rw [ho 18 (by omega) (by omega) _ (by have := hr.1; have := hr.2.1; omega)]; exact hr.2.2⟩
  refine ⟨rAll_add hA hr t n m x y z a0 a1 a2 a3 a4 m1.1 m1.2.1 hnew, hr2, ⟨⟨hp, by rw [z0]; omega, by rw [e18]; exact t4⟩, ?_, ?_, ?_⟩, ?_, ho⟩
  · refine rLks_cons (fun h => absurd (e18.symm.trans h) t7) ?_
    rw [e20]
    exact rLks_ag rfl zrow_cut ho hA5 m1 (fun k h => by have := (m2 k h).2.1; exact this) (fun i _ _ => ⟨rfl, rfl⟩) (fun k _ => ⟨rfl, rfl⟩) m2
  · have h1 : rSub (zrow μ t n m x y z) r m := rSub_ag ho hA5 hr m1 m3
    have h2 : rSub (zrow μ t n m x y z) m (μ.1 18) := by
      have := rSub_next (μ := zrow μ t n m x y z) (r := μ.1 18)
      rw [e20] at this
      exact this
    exact rSub_tr h1 h2
  · have h1 : rSub (zrow μ t n m x y z) m r := rSub_ag ho hA5 m1 hr m4
    have h2 : rSub (zrow μ t n m x y z) (μ.1 18) m := by
      have := rSub_cons (μ := zrow μ t n m x y z) (r := μ.1 18) (by rw [e18]; exact t7)
      rw [e20] at this
      exact this
    exact rSub_tr h2 h1
  · refine rLive_cons ?_ ?_
    · unfold rDyn
      rw [e18, z19, z21, z22, z23, zupd_s, zupd_s, zupd_s, zupd_s, ← rDynd_cut, zrow_cut, rDynd_cut]
      exact hdyn
    · rw [e20]
      exact rLive_ag rfl zrow_cut ho hA5 m1 (Int.le_refl _) hli
/-- the cells change -/
theorem rAll_set {τ : z_S} (hA : rAll σ μ en fin lv ow gw kw ia g r) (hr : rV μ r) (hCI : zCI τ) (hf : zfr [23] [18, 22] σ τ) (hcat : ∀ t, 0 ≤ t → t ≤ σ.1 23 → zcat τ t = zcat σ t) : rAll τ μ en fin lv ow gw kw ia g r ∧ cutC τ = cutC σ := by
  have hc : cutC τ = cutC σ := cutC_fr hf (by simp) (by simp)
  refine ⟨rAll_gen hA hr hc rfl (fun _ _ _ _ _ => rfl) (fun _ _ _ _ => rfl) (Int.le_refl _) (Int.le_refl _) rfl rfl (fun _ _ _ => rfl) ⟨hf.2 19 (by simp), hf.2 20 (by simp), hf.2 21 (by simp)⟩ hcat (fun q q0 q1 => by omega) ?_ hCI ?_ (fun i hi => (rAll_top hA hi).1), hc⟩
  · have h := hA.2.1
    unfold zTx at h ⊢
    rw [hf.1 24 (by simp), hf.1 26 (by simp), hf.1 9 (by simp), hf.1 10 (by simp), hf.2 17 (by simp)]
    exact h
  · have h := hA.2.2.2.1
    unfold rNum at h ⊢
    rw [hf.1 27 (by simp), hf.1 25 (by simp), hf.1 22 (by simp)]
    exact h
theorem rLks_fr (hc : cutC σ' = cutC σ) (hm : cutM μ' = cutM μ) (h23 : σ'.2 23 = σ.2 23) (h24 : σ'.2 24 = σ.2 24) (h2 : ∀ j, 18 ≤ j → j ≤ 26 → μ'.2 j = μ.2 j) (h19 : μ'.1 19 = μ.1 19) (h : rLks σ μ en r) : rLks σ' μ' en r := by
  have e3 : σ'.2 3 = σ.2 3 := by have := congrArg (fun z : z_S => z.2 3) hc; exact this
  have m3 : μ'.2 3 = μ.2 3 := by have := congrArg (fun z : z_S => z.2 3) hm; exact this
  unfold rLks rLk at h ⊢
  rw [h2 20 (by omega) (by omega), h2 18 (by omega) (by omega), h2 22 (by omega) (by omega), h2 24 (by omega) (by omega), h2 26 (by omega) (by omega), h2 19 (by omega) (by omega), h2 21 (by omega) (by omega), h19, h23, h24, e3, m3]
  exact h
theorem rSub_fr (h2 : ∀ j, 18 ≤ j → j ≤ 23 → μ'.2 j = μ.2 j) {a b : Int} (h : rSub μ a b) : rSub μ' a b := by
  unfold rSub at h ⊢
  rw [h2 18 (by omega) (by omega), h2 20 (by omega) (by omega)]
  exact h
theorem rLive_fr (hc : cutC σ' = cutC σ) (hm : cutM μ' = cutM μ) (h2 : ∀ j, 18 ≤ j → j ≤ 23 → μ'.2 j = μ.2 j) {c : Nat → Int} {T T' : Int} (hT : T ≤ T') (h : rLive σ μ en c T r) : rLive σ' μ' en c T' r := by
  intro k
  have hk := h k
  unfold rDyn at hk ⊢
  rw [h2 20 (by omega) (by omega), h2 18 (by omega) (by omega), h2 19 (by omega) (by omega), h2 21 (by omega) (by omega), h2 22 (by omega) (by omega), h2 23 (by omega) (by omega), ← rDynd_cut, hc, hm, rDynd_cut]
  exact rDynd_up hT hk
/-- a step more, another place: nothing else -/
theorem rAll_num {k w : Int} (hA : rAll σ μ en fin lv ow gw kw ia g r) (hr : rV μ r) (hk0 : μ.1 16 ≤ k) (hk : k ≤ μ.1 17) (hw0 : 0 ≤ w) (hw : w ≤ μ.1 7) : rAll (zF (zF σ 27 k) 24 w) (zF (zF μ 16 k) 11 w) en fin lv ow gw kw ia g r := by
  have hc : cutC (zF (zF σ 27 k) 24 w) = cutC σ := cutC_fr (zfr_F (zfr_F zfr_rf (ks := [24, 27]) (js := []) (by simp)) (by simp)) (by simp) (by simp)
  have hm : cutM (zF (zF μ 16 k) 11 w) = cutM μ := cutM_fr (zfr_F (zfr_F zfr_rf (ks := [11, 16]) (js := []) (by simp)) (by simp)) (by simp) (by simp)
  refine rAll_gen hA hr hc hm (fun _ _ _ _ _ => rfl) (fun _ _ _ _ => rfl) (Int.le_refl _) hk0 rfl rfl (fun _ _ _ => rfl) ⟨rfl, rfl, rfl⟩ (fun _ _ _ => rfl) (fun q q0 q1 => absurd q1 (by show ¬ q < μ.1 18; omega)) ?_ hA.2.2.1 ?_ (fun i hi => (rAll_top hA hi).1)
  · obtain ⟨t1, t2, t3, t4, t5, t6, t7, t8, t9⟩ := hA.2.1
    refine ⟨rfl, t2, t3, t4, hw0, ?_, t7, t8, t9⟩
    show w ≤ σ.1 26
    omega
  · obtain ⟨n1, n2, n3, n4, n5, n6, n7, n8⟩ := hA.2.2.2.1
    refine ⟨rfl, ?_, hk, n4, n5, n6, n7, n8⟩
    show 0 ≤ k
    omega
/-- the groups of the reference change -/
theorem rAll_gr (hA : rAll σ μ en fin lv ow gw kw ia g r) (hr : rV μ r) (hf : zfr [] [17] μ μ') : rAll σ μ' en fin lv ow gw kw ia g r := by
  have hm : cutM μ' = cutM μ := cutM_fr hf (by simp) (by simp)
  refine rAll_gen hA hr rfl hm (fun j h1 h2 i hi => by rw [hf.2 j (by simp; omega)]) (fun _ _ _ _ => rfl) (by rw [hf.1 18 (by simp)]; omega) (by rw [hf.1 16 (by simp)]; omega) (hf.1 7 (by simp)) (hf.1 19 (by simp)) (fun j h1 h2 => hf.2 j (by simp; omega)) ⟨rfl, rfl, rfl⟩ (fun _ _ _ => rfl) (fun q q0 q1 => absurd q1 (by rw [hf.1 18 (by simp)]; omega)) ?_ hA.2.2.1 ?_ (fun i hi => rSub_fr (fun j h1 h2 => hf.2 j (by simp; omega)) (rAll_top hA hi).1)
  · have h := hA.2.1
    unfold zTx at h ⊢
    rw [hf.1 11 (by simp), hf.1 7 (by simp), hf.1 3 (by simp), hf.1 4 (by simp), hf.2 2 (by simp)]
    exact h
  · have h := hA.2.2.2.1
    unfold rNum at h ⊢
    rw [hf.1 16 (by simp), hf.1 17 (by simp), hf.1 19 (by simp), hf.1 18 (by simp), hf.2 26 (by simp)]
    exact h
end LB
