section CN
variable {N : Nat}
theorem pMem_new {σ μ σ' μ' : z_S} {m : Int} (hm0 : 0 ≤ m) (h : ∀ i : Nat, (i : Int) < m → pMem σ μ i) (h5 : ∀ i : Nat, i ≠ m.toNat → σ'.2 5 i = σ.2 5 i) (h6 : ∀ i : Nat, i ≠ m.toNat → σ'.2 6 i = σ.2 6 i) (h12 : ∀ i : Nat, i ≠ m.toNat → μ'.2 12 i = μ.2 12 i) (h13 : ∀ i : Nat, i ≠ m.toNat → μ'.2 13 i = μ.2 13 i)
    (hn : pMem σ' μ' m.toNat) : ∀ i : Nat, (i : Int) < m + 1 → pMem σ' μ' i := fun i hi => by
  by_cases e : i = m.toNat
  · rw [e]; exact hn
  · have := h i (by omega)
    unfold pMem at this ⊢
    rw [h5 i e, h6 i e, h12 i e, h13 i e]; exact this
/-- how a class ends for both -/
def cR (N : Nat) (x1 x2 nn : Int) (σ μ : z_S) (X Y : Option (Int × z_S)) (a : Int) : Prop :=
  (∃ σe μe b, X = ((zReader_addAtom N (if x1 = 0 then 4 else 5) x2 (σe.1 5) (zF σe 12 (b + 1))).bind fun q => some (0, q.2)) ∧ Y = some (nn, zA (zF μe 11 (b + 1)) 5 nn.toNat (μe.1 10)) ∧ zfr [5, 12, 13] [5, 6] σ σe ∧ zfr [10, 11, 12, 13] [12, 13] μ μe ∧ σe.1 13 = -1 ∧ μe.1 12 = -1 ∧ σe.1 5 = μe.1 10 ∧ μ.1 10 ≤ μe.1 10 ∧ μe.1 10 ≤ b ∧ a ≤ b ∧ b < μ.1 2 ∧ ∀ i : Nat, (i : Int) < μe.1 10 → pMem σe μe i) ∨
  (∃ σe μe, X = some (0, σe) ∧ Y = some (nn, μe) ∧ zfr [5, 12, 13] [5, 6] σ σe ∧ zfr [10, 11, 12, 13] [5, 12, 13] μ μe ∧ 0 ≤ σe.1 13 ∧ μe.1 12 = σe.1 13)
theorem cR_tr {x1 x2 nn a a' : Int} {σ μ σ1 μ1 : z_S} {X Y : Option (Int × z_S)} (h : cR N x1 x2 nn σ1 μ1 X Y a') (h1 : zfr [5, 12, 13] [5, 6] σ σ1) (h2 : zfr [10, 11, 12, 13] [12, 13] μ μ1) (h3 : μ.1 10 ≤ μ1.1 10) (h4 : a ≤ a') : cR N x1 x2 nn σ μ X Y a := by
  rcases h with ⟨σe, μe, b, q1, q2, q3, q4, q5, q6, q7, q8, q9, q10, q11, q12⟩ | ⟨σe, μe, q1, q2, q3, q4, q5, q6⟩
  · exact Or.inl ⟨σe, μe, b, q1, q2, zfr_tr h1 q3, zfr_tr h2 q4, q5, q6, q7, by omega, q9, by omega, by rw [h2.1 2 (by simp)] at q11; exact q11, q12⟩
  · exact Or.inr ⟨σe, μe, q1, q2, zfr_tr h1 q3, zfr_tr (zfr_up h2 (by simp) (by simp)) q4, q5, q6⟩
theorem zml_fin {σ μ : z_S} (hx : xL σ μ) {nn : Int} (n0 : 0 ≤ nn) (n1 : nn < 1300) (ha : 0 ≤ μ.1 11) (ha1 : μ.1 11 ≤ 500) (hw : 0 ≤ μ.1 12) {n : Nat} : ∃ μe, zMod_aClass_l51 N (n + 1) nn μ = some (nn, μe) ∧ zfr [11] [5] μ μe :=
  ⟨_, zml_w hx n0 n1 ha ha1 (Or.inl hw), zfr_A (zfr_F zfr_rf (by simp)) (by simp)⟩
theorem zmT_fin {σ μ : z_S} (hx : xL σ μ) {nn how : Int} (n0 : 0 ≤ nn) (n1 : nn < 1300) (m0 : 0 ≤ μ.1 10) (m1 : μ.1 10 < 200) (ha : 0 ≤ μ.1 11) (ha1 : μ.1 11 ≤ 500) (hw : 0 ≤ μ.1 12) {n : Nat} : ∃ μe, mT N (zMod_aClass_l51 N (n + 1)) nn how μ = some (nn, μe) ∧ zfr [10, 11] [5, 12, 13] μ μe := by
  obtain ⟨μe, e1, e2⟩ := zml_fin (N := N) (σ := σ) (μ := zF (mLH μ how) 10 (μ.1 10 + 1)) (xL_mv hx rfl rfl rfl rfl) n0 n1 ha ha1 hw (n := n)
  refine ⟨μe, ?_, zfr_tr (zfr_F (zfr_up (mLH_fr (how := how)) (by simp) (by simp)) (by simp)) (zfr_up e2 (by simp) (by simp))⟩
  rw [mT_all hx m0 m1 ha ha1, if_pos hw, ite_self]
  exact e1
theorem zCls_0 (hN : 1000 ≤ N) {x1 x2 nn : Int} (n0 : 0 ≤ nn) (n1 : nn < 1300) {σ μ : z_S} {a t : Int} {n n2 : Nat} (hx : xL σ μ) (ha : σ.1 12 = a) (hm : μ.1 11 = a) (ea : a = μ.1 2) (hs : σ.1 13 = -1) (hw : μ.1 12 = -1) (m0 : 0 ≤ μ.1 10) (m1 : μ.1 10 + 1 ≤ a) (t0 : 0 ≤ t) (t1 : t + 1 ≤ a) (hn : 1 ≤ n) (hn2 : 2 ≤ n2) :
    cR N x1 x2 nn σ μ (zReader_readClass_l56 N n x1 x2 (-1) t σ) (zMod_aClass_l51 N n2 nn μ) a := by
  have h200 := hx.2.2.1
  have hs2 := hx.2.1
  obtain ⟨n, rfl⟩ : ∃ z, n = z + 1 := ⟨n - 1, by omega⟩
  obtain ⟨n2, rfl⟩ : ∃ z, n2 = z + 1 + 1 := ⟨n2 - 2, by omega⟩
  have hu : uA μ (μ.1 11) = -1 := by unfold uA; rw [if_neg (by omega)]
  right
  obtain ⟨μe, y1, y2⟩ := zmT_fin (N := N) (σ := σ) (μ := zF (zF (zF μ 12 (μ.1 2)) 13 (-1)) 11 (μ.1 2 + 1)) (how := 0) (xL_mv hx rfl rfl rfl rfl) n0 n1 m0 (by show μ.1 10 < 200; omega) (by show 0 ≤ μ.1 2 + 1; omega) (by show μ.1 2 + 1 ≤ 500; omega) hs2 (n := n2)
  refine ⟨zF σ 13 (μ.1 2), μe, zcl_out hx hs (by omega) (by omega), ?_, zfr_F zfr_rf (by simp), zfr_tr (zfr_F (zfr_F (zfr_F zfr_rf (by simp)) (by simp)) (by simp)) (zfr_up y2 (by simp) (by simp)), hs2, y2.1 12 (by simp)⟩
  rw [zml_1 hx (by omega) (by omega) (by omega) (by omega), zMem_no hx (by omega) hw]
  exact y1
theorem zCls (hN : 1000 ≤ N) {x1 x2 nn : Int} (n0 : 0 ≤ nn) (n1 : nn < 1300) : ∀ (k : Nat) (σ μ : z_S) (a t : Int) (n n2 : Nat), xL σ μ → σ.1 12 = a → μ.1 11 = a → 0 ≤ a → a ≤ μ.1 2 → σ.1 13 = -1 → μ.1 12 = -1 → σ.1 5 = μ.1 10 → 0 ≤ μ.1 10 → μ.1 10 + 1 ≤ a → (∀ i : Nat, (i : Int) < μ.1 10 → pMem σ μ i) → μ.1 2 - a ≤ k → 0 ≤ t → t + 1 ≤ a → 2 * (μ.1 2 - a) + 4 ≤ n → (μ.1 2 - a) + 4 ≤ n2 →
    cR N x1 x2 nn σ μ (zReader_readClass_l56 N n x1 x2 (-1) t σ) (zMod_aClass_l51 N n2 nn μ) a := by
  intro k
  induction k with
  | zero =>
    intro σ μ a t n n2 hx ha hm h0 h1 hs hw h5 m0 m1 hpm hk t0 t1 hn hn2
    exact zCls_0 hN n0 n1 hx ha hm (by omega) hs hw m0 m1 t0 t1 (by omega) (by omega)
  | succ k ih =>
    intro σ μ a t n n2 hx ha hm h0 h1 hs hw h5 m0 m1 hpm hk t0 t1 hn hn2
    have h200 := hx.2.2.1
    have hs2 := hx.2.1
    by_cases ea : a = μ.1 2
    · exact zCls_0 hN n0 n1 hx ha hm ea hs hw m0 m1 t0 t1 (by omega) (by omega)
    obtain ⟨n, rfl⟩ : ∃ z, n = z + 1 + 1 + 1 := ⟨n - 3, by omega⟩
    obtain ⟨n2, rfl⟩ : ∃ z, n2 = z + 1 + 1 := ⟨n2 - 2, by omega⟩
    by_cases e93 : uA μ a = 93
    · exact Or.inl ⟨σ, μ, a, zcl_end hx hs ha h0 (by omega) e93 (by omega), by rw [zml_w hx n0 n1 (by omega) (by omega) (Or.inr (by rw [hm]; exact e93)), hm], zfr_rf, zfr_rf, hs, hw, h5, Int.le_refl _, by omega, Int.le_refl _, by omega, hpm⟩
    obtain ⟨v, how, σ1, μ1, y1, y2, y3, y4, y5⟩ := zMem hN hx ha hm h0 (by omega) hs hw
    have hx1 : xL σ1 μ1 := xL_mv hx (y3.1 11 (by simp)) (y3.2 0 (by simp)) (y4.1 2 (by simp)) (y4.2 1 (by simp))
    have hu1 : uA μ1 = uA μ := uA_mv (y4.1 2 (by simp)) (y4.2 1 (by simp))
    have s5 : σ1.1 5 = μ.1 10 := by rw [y3.1 5 (by simp)]; exact h5
    have s10 : μ1.1 10 = μ.1 10 := y4.1 10 (by simp)
    have s2 : μ1.1 2 = μ.1 2 := y4.1 2 (by simp)
    have fC1 : zfr [5, 12, 13] [5, 6] σ σ1 := zfr_up y3 (by simp) (by simp)
    have fM1 : zfr [10, 11, 12, 13] [12, 13] μ μ1 := zfr_up y4 (by simp) (by simp)
    rw [zcl_1 hx hs ha (by omega) e93 (by omega) (by omega) y1, zml_1 hx (by omega) (by omega) (by omega) (by rw [hm]; exact e93), y2]
    simp only [Option.bind_some]
    rcases y5 with ⟨q1, q2, q3, q4, q5, q6⟩ | ⟨q1, q2, q3, q4⟩
    · -- read
      rw [if_neg (by omega)]
      generalize hp : σ1.1 12 = p at q3 q4 q5
      have hTM := zTM (N := N) hx1 (x := -1) (v := v) (b := a) hp (by omega) (by omega) (by omega) (by omega) (fun z => absurd rfl z)
      rw [if_pos rfl, hu1, s2] at hTM
      have hmT := mT_all (N := N) hx1 (k := zMod_aClass_l51 N (n2 + 1)) (nn := nn) (how := how) (by omega) (by omega) (by omega) (by omega)
      rw [hu1, ← q3, s2, if_neg (show ¬ 0 ≤ μ1.1 12 by omega)] at hmT
      -- the member alone
      have hsingle : ∀ i : Nat, (i : Int) < μ.1 10 + 1 → pMem (cMem σ1 v v) (zF (mLH μ1 how) 10 (μ1.1 10 + 1)) i := by
        refine pMem_new m0 hpm (fun i hi => ?_) (fun i hi => ?_) (fun i hi => ?_) (fun i hi => ?_) ?_
        · show zupd (σ1.2 5) (σ1.1 5).toNat v i = _
          rw [s5, zupd_n hi, y3.2 5 (by simp)]
        · show zupd (σ1.2 6) (σ1.1 5).toNat v i = _
          rw [s5, zupd_n hi, y3.2 6 (by simp)]
        · show zupd (μ1.2 12) (μ1.1 10).toNat (μ1.1 13) i = _
          rw [s10, zupd_n hi, y4.2 12 (by simp)]
        · show zupd (μ1.2 13) (μ1.1 10).toNat (if how = 1 then -1 else μ1.1 13) i = _
          rw [s10, zupd_n hi, y4.2 13 (by simp)]
        · have a1 : (cMem σ1 v v).2 5 (μ.1 10).toNat = v := by show zupd (σ1.2 5) (σ1.1 5).toNat v _ = _; rw [s5, zupd_s]
          have a2 : (cMem σ1 v v).2 6 (μ.1 10).toNat = v := by show zupd (σ1.2 6) (σ1.1 5).toNat v _ = _; rw [s5, zupd_s]
          have a3 : (zF (mLH μ1 how) 10 (μ1.1 10 + 1)).2 12 (μ.1 10).toNat = μ1.1 13 := by show zupd (μ1.2 12) (μ1.1 10).toNat (μ1.1 13) _ = _; rw [s10, zupd_s]
          have a4 : (zF (mLH μ1 how) 10 (μ1.1 10 + 1)).2 13 (μ.1 10).toNat = if how = 1 then -1 else μ1.1 13 := by show zupd (μ1.2 13) (μ1.1 10).toNat (if how = 1 then -1 else μ1.1 13) _ = _; rw [s10, zupd_s]
          unfold pMem
          rw [a1, a2, a3, a4]
          rcases q6 with ⟨r1, r2, r3, r4⟩ | ⟨r1, r2, r3⟩
          · rw [if_neg (by omega)]; exact ⟨fun z => by omega, fun _ => ⟨by omega, by omega, r2, r2⟩⟩
          · rw [if_pos r1]; exact ⟨fun _ => ⟨r3, r2⟩, fun z => by omega⟩
      have fC2 : zfr [5, 12, 13] [5, 6] σ (cMem σ1 v v) := zfr_tr fC1 (zfr_up cMem_fr (by simp) (by simp))
      have fM2 : zfr [10, 11, 12, 13] [12, 13] μ (zF (mLH μ1 how) 10 (μ1.1 10 + 1)) := zfr_F (zfr_tr fM1 (zfr_up mLH_fr (by simp) (by simp))) (by simp)
      by_cases cr : uA μ p = 45 ∧ uA μ (p + 1) ≠ 93
      · rw [if_pos cr] at hmT
        by_cases cn : uA μ (p + 1) < 0
        · -- a dash at the pattern's end
          have hpe : p + 1 = μ.1 2 := by
            have := (uA_bd hx (p + 1)).2.2
            have h3 : p < μ.1 2 := ((uA_bd hx p).2.2.mp (by omega)).2
            have : ¬ (0 ≤ p + 1 ∧ p + 1 < μ.1 2) := fun z => by have := this.mpr z; omega
            omega
          rw [if_neg (fun z => by omega)] at hTM
          rw [if_pos cn] at hmT
          rw [hTM, hmT]
          simp only [Option.bind_some]
          right
          obtain ⟨μe, z1, z2⟩ := zml_fin (N := N) (σ := σ) (μ := zF (zF (mLH μ1 how) 12 (μ.1 2)) 10 (μ1.1 10 + 1)) (xL_mv hx rfl rfl s2 (y4.2 1 (by simp))) n0 n1 (by show 0 ≤ μ1.1 11; omega) (by show μ1.1 11 ≤ 500; omega) hs2 (n := n2)
          have hxc : xL (cMem σ1 v v) μ := xL_mv hx (fC2.1 11 (by simp)) (fC2.2 0 (by simp)) rfl rfl
          have c12 : (cMem σ1 v v).1 12 = p := hp
          have c13 : (cMem σ1 v v).1 13 = -1 := q1
          have c5 : (cMem σ1 v v).1 5 = μ.1 10 + 1 := by show σ1.1 5 + 1 = _; omega
          have htu : zReader_takeUnit N (cMem σ1 v v) = some (45, zF (cMem σ1 v v) 12 (p + 1)) := by
            rw [zReader_takeUnit_u, zua hxc, c12, cr.1]
            simp only [Option.bind_some]
            rw [c12, if_pos (show zin (p + 1) from ⟨by omega, by omega⟩)]
          have hxd : xL (zF (cMem σ1 v v) 12 (p + 1)) μ := xL_mv hxc rfl rfl rfl rfl
          have hT2 := zTM (N := N) hxd (x := -1) (v := 45) (b := p) rfl (by show 0 ≤ p + 1; omega) (by show p + 1 ≤ 200; omega) (by show 0 ≤ (cMem σ1 v v).1 5; omega) (by show (cMem σ1 v v).1 5 < 200; omega) (fun z => absurd rfl z)
          have hue : uA μ ((zF (cMem σ1 v v) 12 (p + 1)).1 12) = -1 := by
            show uA μ (p + 1) = -1
            have := (uA_bd hx (p + 1)).1; omega
          rw [if_pos rfl, hue, if_neg (fun z => by omega)] at hT2
          have hxf : xL (cMem (zF (cMem σ1 v v) 12 (p + 1)) 45 45) μ := xL_mv hxd rfl rfl rfl rfl
          refine ⟨zF (cMem (zF (cMem σ1 v v) 12 (p + 1)) 45 45) 13 (μ.1 2), μe, ?_, z1, zfr_F (zfr_tr (zfr_F fC2 (by simp)) (zfr_up cMem_fr (by simp) (by simp))) (by simp), zfr_tr (zfr_F (zfr_F (zfr_up (zfr_tr fM1 (zfr_up (mLH_fr (how := how)) (by simp) (by simp))) (by simp) (by simp)) (by simp)) (by simp)) (zfr_up z2 (by simp) (by simp)), hs2, z2.1 12 (by simp)⟩
          rw [zcl_1 hxc c13 c12 (by omega) (by omega) (by omega) (by omega) (v := 45) (σ1 := zF (cMem σ1 v v) 12 (p + 1)) (by rw [if_neg (by omega)]; exact htu), if_neg (show ¬ 0 ≤ (zF (cMem σ1 v v) 12 (p + 1)).1 13 by show ¬ 0 ≤ σ1.1 13; omega), hT2]
          simp only [Option.bind_some]
          exact zcl_out hxf (show σ1.1 13 = -1 from q1) hpe (by omega)
        · have hpl : p + 1 < μ.1 2 := ((uA_bd hx (p + 1)).2.2.mp (by omega)).2
          rw [if_pos ⟨cr.1, hpl, cr.2⟩] at hTM
          rw [if_neg cn] at hmT
          by_cases ch : how = 1
          · -- a set begins no range
            have hv : ¬ v < 65536 := by
              rcases q6 with r | r
              · omega
              · obtain ⟨-, r2, r3⟩ := r; unfold uLt at r3; omega
            rw [if_neg hv] at hTM
            rw [if_pos ch] at hmT
            rw [hTM, hmT]
            simp only [Option.bind_some]
            right
            obtain ⟨μe, z1, z2⟩ := zml_fin (N := N) (σ := σ) (μ := zF (zF (mLH μ1 how) 12 p) 10 (μ1.1 10 + 1)) (xL_mv hx rfl rfl s2 (y4.2 1 (by simp))) n0 n1 (by show 0 ≤ μ1.1 11; omega) (by show μ1.1 11 ≤ 500; omega) (by show 0 ≤ p; omega) (n := n2)
            refine ⟨zF (zF σ1 13 p) 12 (p + 1), μe, zcl_w (σ := zF (zF σ1 13 p) 12 (p + 1)) (μ := μ1) (xL_mv hx1 rfl rfl rfl rfl) (by show 0 ≤ p; omega), z1, zfr_F (zfr_F fC1 (by simp)) (by simp), zfr_tr (zfr_F (zfr_F (zfr_up (zfr_tr fM1 (zfr_up (mLH_fr (how := how)) (by simp) (by simp))) (by simp) (by simp)) (by simp)) (by simp)) (zfr_up z2 (by simp) (by simp)), by show 0 ≤ p; omega, z2.1 12 (by simp)⟩
          · -- a range
            obtain ⟨hv0, hv1, hv2⟩ : v = μ1.1 13 ∧ 0 ≤ v ∧ v ≤ 65535 := by
              rcases q6 with ⟨-, r⟩ | ⟨r, -⟩
              · exact r
              · exact absurd r ch
            rw [if_pos (by omega)] at hTM
            rw [if_neg ch] at hmT
            rw [hTM, hmT]
            simp only [Option.bind_some]
            have hxr : xL (zF σ1 12 (p + 1)) (zF (mLH μ1 how) 11 (p + 1)) := xL_mv hx1 rfl rfl rfl rfl
            obtain ⟨v2, how2, σ3, μ3, z1, z2, z3, z4, z5⟩ := zMem (N := N) (σ := zF σ1 12 (p + 1)) (μ := zF (mLH μ1 how) 11 (p + 1)) (a := p + 1) hN hxr rfl rfl (by omega) (by show p + 1 < μ1.1 2; omega) q1 q2
            have hx3 : xL σ3 μ3 := xL_mv hxr (z3.1 11 (by simp)) (z3.2 0 (by simp)) (z4.1 2 (by simp)) (z4.2 1 (by simp))
            have w5 : σ3.1 5 = μ.1 10 := by rw [z3.1 5 (by simp)]; exact s5
            have w10 : μ3.1 10 = μ.1 10 := by rw [z4.1 10 (by simp)]; exact s10
            have w12 : μ3.2 12 (μ3.1 10).toNat = v := by
              rw [z4.2 12 (by simp), w10]
              show zupd (μ1.2 12) (μ1.1 10).toNat (μ1.1 13) _ = _
              rw [s10, zupd_s, hv0]
            have w2 : μ3.1 2 = μ.1 2 := by rw [z4.1 2 (by simp)]; exact s2
            have fC3 : zfr [5, 12, 13] [5, 6] σ σ3 := zfr_tr (zfr_F fC1 (k := 12) (v := p + 1) (by simp)) (zfr_up z3 (by simp) (by simp))
            have fM3 : zfr [10, 11, 12, 13] [12, 13] μ μ3 := zfr_tr (zfr_F (zfr_tr fM1 (zfr_up (mLH_fr (how := how)) (by simp) (by simp))) (k := 11) (v := p + 1) (by simp)) (zfr_up z4 (by simp) (by simp))
            have hu2 : uA (zF (mLH μ1 how) 11 (p + 1)) = uA μ := (uA_mv rfl rfl : uA (zF (mLH μ1 how) 11 (p + 1)) = uA μ1).trans hu1
            have hxr2 : xL (zF σ1 12 (p + 1)) μ1 := xL_mv hx1 rfl rfl rfl rfl
            rw [hu2] at z1
            have h186 := m186 (N := N) (k := zMod_aClass_l51 N (n2 + 1)) (nn := nn) (μ := mLH μ1 how) (how2 := how2) (μ2 := μ3) (by show 0 ≤ μ1.1 11; omega) (by show μ1.1 11 ≤ 500; omega) (by show zMod_member N (zF (mLH μ1 how) 11 (μ1.1 11 + 1)) = _; rw [← q3]; exact z2) (by omega) (by omega)
            have e11 : (mLH μ1 how).1 11 + 1 = p + 1 := by show μ1.1 11 + 1 = _; omega
            rw [w12, e11] at h186
            rw [h186, zcl_1 hxr2 (show σ1.1 13 = -1 from q1) (p := p + 1) rfl (by omega) (by rw [hu1]; exact cr.2) (by omega) (by omega) (by rw [hu1]; exact z1)]
            rcases z5 with ⟨r1, r2, r3, r4, r5, r6⟩ | ⟨r1, r2, r3, r4⟩
            · rw [if_neg (by omega)]
              have r5' : σ3.1 12 ≤ μ.1 2 := by
                have : (zF (mLH μ1 how) 11 (p + 1)).1 2 = μ.1 2 := s2
                omega
              have hT3 := zTM (N := N) hx3 (x := v) (v := v2) (b := p + 1) rfl (by omega) (by omega) (by omega) (by omega) (fun _ => by omega)
              rw [if_neg (by omega)] at hT3
              by_cases cok : v2 < 65536 ∧ v ≤ v2
              · -- a right range
                obtain ⟨g1, g2, g3, g4⟩ : how2 ≠ 1 ∧ v2 = μ3.1 13 ∧ 0 ≤ v2 ∧ v2 ≤ 65535 := by
                  rcases r6 with ⟨r, r'⟩ | ⟨r, r', r''⟩
                  · exact ⟨by omega, r'⟩
                  · unfold uLt at r''; omega
                rw [if_pos cok] at hT3
                rw [hT3, if_neg (show ¬ (how2 = 1 ∨ μ3.1 13 < v) by omega)]
                simp only [Option.bind_some]
                have hrec := ih (cMem σ3 v v2) (zF (zA μ3 13 (μ3.1 10).toNat (μ3.1 13)) 10 (μ3.1 10 + 1)) (σ3.1 12) (t + 1 + 1) (n + 1) (n2 + 1) (xL_mv hx3 rfl rfl rfl rfl) rfl r3.symm (by omega) (by show σ3.1 12 ≤ μ3.1 2; omega) r1 r2 (by show σ3.1 5 + 1 = μ3.1 10 + 1; omega) (by show 0 ≤ μ3.1 10 + 1; omega) (by show μ3.1 10 + 1 + 1 ≤ _; omega) (by
                    show ∀ i : Nat, (i : Int) < μ3.1 10 + 1 → _
                    rw [w10]
                    refine pMem_new m0 hpm (fun i hi => ?_) (fun i hi => ?_) (fun i hi => ?_) (fun i hi => ?_) ?_
                    · show zupd (σ3.2 5) (σ3.1 5).toNat v i = _
                      rw [w5, zupd_n hi, z3.2 5 (by simp)]
                      exact congrFun (y3.2 5 (by simp)) i
                    · show zupd (σ3.2 6) (σ3.1 5).toNat v2 i = _
                      rw [w5, zupd_n hi, z3.2 6 (by simp)]
                      exact congrFun (y3.2 6 (by simp)) i
                    · show μ3.2 12 i = _
                      rw [z4.2 12 (by simp)]
                      show zupd (μ1.2 12) (μ1.1 10).toNat (μ1.1 13) i = _
                      rw [s10, zupd_n hi, y4.2 12 (by simp)]
                    · show zupd (μ3.2 13) (μ.1 10).toNat (μ3.1 13) i = _
                      rw [zupd_n hi, z4.2 13 (by simp)]
                      show zupd (μ1.2 13) (μ1.1 10).toNat _ i = _
                      rw [s10, zupd_n hi, y4.2 13 (by simp)]
                    · have a1 : (cMem σ3 v v2).2 5 (μ.1 10).toNat = v := by show zupd (σ3.2 5) (σ3.1 5).toNat v _ = _; rw [w5, zupd_s]
                      have a2 : (cMem σ3 v v2).2 6 (μ.1 10).toNat = v2 := by show zupd (σ3.2 6) (σ3.1 5).toNat v2 _ = _; rw [w5, zupd_s]
                      have a3 : μ3.2 12 (μ.1 10).toNat = v := by rw [← w10]; exact w12
                      unfold pMem
                      rw [a1, a2]
                      show (zupd (μ3.2 13) (μ.1 10).toNat (μ3.1 13) (μ.1 10).toNat < 0 → uLt (μ3.2 12 (μ.1 10).toNat) ∧ _) ∧ (0 ≤ zupd (μ3.2 13) (μ.1 10).toNat (μ3.1 13) (μ.1 10).toNat → 0 ≤ μ3.2 12 (μ.1 10).toNat ∧ μ3.2 12 (μ.1 10).toNat ≤ 65535 ∧ v = μ3.2 12 (μ.1 10).toNat ∧ v2 = zupd (μ3.2 13) (μ.1 10).toNat (μ3.1 13) (μ.1 10).toNat)
                      rw [zupd_s, a3]
                      exact ⟨fun z => by omega, fun _ => ⟨by omega, by omega, rfl, g2⟩⟩) (by show μ3.1 2 - _ ≤ _; omega) (by omega) (by omega) (by show 2 * (μ3.1 2 - _) + 4 ≤ _; omega) (by show (μ3.1 2 - _) + 4 ≤ _; omega)
                refine cR_tr hrec (zfr_tr fC3 (zfr_up cMem_fr (by simp) (by simp))) (zfr_F (zfr_A fM3 (by simp)) (by simp)) ?_ (by omega)
                show μ.1 10 ≤ μ3.1 10 + 1; omega
              · -- a wrong range
                rw [if_neg cok] at hT3
                have hbad : how2 = 1 ∨ μ3.1 13 < v := by
                  rcases r6 with ⟨r, r'⟩ | ⟨r, -⟩
                  · omega
                  · exact Or.inl r
                rw [hT3, if_pos hbad, if_neg (show ¬ 0 ≤ μ3.1 12 by omega)]
                simp only [Option.bind_some]
                right
                obtain ⟨μe, f1, f2⟩ := zml_fin (N := N) (σ := σ3) (μ := zF (zA (zF μ3 12 (p + 1)) 13 (μ3.1 10).toNat (μ3.1 13)) 10 (μ3.1 10 + 1)) (xL_mv hx3 rfl rfl rfl rfl) n0 n1 (by show 0 ≤ μ3.1 11; omega) (by show μ3.1 11 ≤ 500; omega) (by show 0 ≤ p + 1; omega) (n := n2)
                refine ⟨cMem (zF σ3 13 (p + 1)) v v2, μe, zcl_w (σ := cMem (zF σ3 13 (p + 1)) v v2) (μ := μ3) (xL_mv hx3 rfl rfl rfl rfl) (by show 0 ≤ p + 1; omega), f1, zfr_tr (zfr_F fC3 (by simp)) (zfr_up cMem_fr (by simp) (by simp)), zfr_tr (zfr_F (zfr_A (zfr_F (zfr_up fM3 (by simp) (by simp)) (by simp)) (by simp)) (by simp)) (zfr_up f2 (by simp) (by simp)), by show 0 ≤ p + 1; omega, f2.1 12 (by simp)⟩
            · -- wrong in the last of a range
              rw [if_pos r1]
              right
              obtain ⟨μe, f1, f2⟩ := zml_fin (N := N) (σ := σ3) (μ := zF (zA (if how2 = 1 ∨ μ3.1 13 < v then zF μ3 12 (if 0 ≤ μ3.1 12 then μ3.1 12 else p + 1) else μ3) 13 (μ3.1 10).toNat (μ3.1 13)) 10 (μ3.1 10 + 1)) (xL_mv hx3 rfl rfl (by split <;> rfl) (by split <;> rfl)) n0 n1 (by split <;> (show 0 ≤ μ3.1 11; omega)) (by split <;> (show μ3.1 11 ≤ 500; omega)) (by
                split
                · show 0 ≤ if 0 ≤ μ3.1 12 then μ3.1 12 else p + 1
                  split <;> omega
                · show 0 ≤ μ3.1 12; omega) (n := n2)
              refine ⟨σ3, μe, zcl_w hx3 r1, f1, fC3, zfr_tr (zfr_F (zfr_A ?_ (by simp)) (by simp)) (zfr_up f2 (by simp) (by simp)), r1, ?_⟩
              · split
                · exact zfr_F (zfr_up fM3 (by simp) (by simp)) (by simp)
                · exact zfr_up fM3 (by simp) (by simp)
              · rw [f2.1 12 (by simp)]
                show (if how2 = 1 ∨ μ3.1 13 < v then zF μ3 12 (if 0 ≤ μ3.1 12 then μ3.1 12 else p + 1) else μ3).1 12 = _
                split
                · show (if 0 ≤ μ3.1 12 then μ3.1 12 else p + 1) = _
                  rw [if_pos (by omega)]; exact r2
                · exact r2
      · -- no range
        rw [if_neg (fun z => cr ⟨z.1, z.2.2⟩)] at hTM
        rw [if_neg cr] at hmT
        rw [hTM, hmT]
        simp only [Option.bind_some]
        have hrec := ih (cMem σ1 v v) (zF (mLH μ1 how) 10 (μ1.1 10 + 1)) p (t + 1) (n + 1 + 1) (n2 + 1) (xL_mv hx1 rfl rfl rfl rfl) hp q3.symm (by omega) (by show p ≤ μ1.1 2; omega) q1 q2 (by show σ1.1 5 + 1 = μ1.1 10 + 1; omega) (by show 0 ≤ μ1.1 10 + 1; omega) (by show μ1.1 10 + 1 + 1 ≤ _; omega) (by show ∀ i : Nat, (i : Int) < μ1.1 10 + 1 → _; rw [s10] at hsingle ⊢; exact hsingle) (by show μ1.1 2 - _ ≤ _; omega) (by omega) (by omega) (by show 2 * (μ1.1 2 - _) + 4 ≤ _; omega) (by show (μ1.1 2 - _) + 4 ≤ _; omega)
        refine cR_tr hrec fC2 fM2 ?_ (by omega)
        show μ.1 10 ≤ μ1.1 10 + 1; omega
    · -- wrong in the member
      rw [if_pos q1]
      right
      obtain ⟨μe, z1, z2⟩ := zmT_fin (N := N) (how := how) hx1 n0 n1 (by omega) (by omega) (by omega) (by omega) (by omega) (n := n2)
      exact ⟨σ1, μe, zcl_w hx1 q1, z1, fC1, zfr_tr (zfr_up fM1 (by simp) (by simp)) (zfr_up z2 (by simp) (by simp)), q1, by rw [z2.1 12 (by simp)]; exact q2⟩
end CN
