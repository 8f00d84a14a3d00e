/-! the calls but pattern -/
theorem b32 (i : Nat) : (65535#32).getLsbD i = decide (i < 16) := by
  have h : (65535#32) = BitVec.ofNat 32 (2^16 - 1) := rfl
  rw [h, BitVec.getLsbD_ofNat, Nat.testBit_two_pow_sub_one]
  by_cases q : i < 16
  · simp [q]; omega
  · simp [q]
theorem bvk (y : BitVec 64) (s : Nat) (hs : s ≤ 48) : BitVec.signExtend 32 (y.sshiftRight s) &&& 65535#32 = BitVec.signExtend 32 (y >>> s) &&& 65535#32 := by
  apply BitVec.eq_of_getLsbD_eq
  intro i hi
  rw [BitVec.getLsbD_and, BitVec.getLsbD_and, BitVec.getLsbD_signExtend, BitVec.getLsbD_signExtend, b32, BitVec.getLsbD_sshiftRight, BitVec.getLsbD_ushiftRight]
  by_cases q : i < 16
  · have h1 : ¬ 64 ≤ i := by omega
    have h2 : s + i < 64 := by omega
    have h3 : i < 64 := by omega
    simp [q, h1, h2, hi, h3]
  · simp [q]
theorem zlmc (x : Int64) (k : Int) (h0 : 0 ≤ k) (h1 : k ≤ 3) : zlm x (16 * k) = zlc x (16 * k) := by
  have hk : k = 0 ∨ k = 1 ∨ k = 2 ∨ k = 3 := by omega
  rcases hk with rfl | rfl | rfl | rfl
  · show zlm x 0 = zlc x 0
    unfold zlm zlc
    congr 1
    apply Int32.toBitVec_inj.1
    have e1 : ((zI 0).toInt64 &&& 63) = 0 := by decide
    have e2 : ((zI 0).toInt64.toUInt64 &&& Int64.toUInt64 63) = 0 := by decide
    rw [e1, e2]
    simp
  · show zlm x 16 = zlc x 16
    unfold zlm zlc
    congr 1
    apply Int32.toBitVec_inj.1
    have e1 : ((zI 16).toInt64 &&& 63) = 16 := by decide
    have e2 : ((zI 16).toInt64.toUInt64 &&& Int64.toUInt64 63) = 16 := by decide
    rw [e1, e2]
    simp
    exact bvk x.toBitVec 16 (by decide)
  · show zlm x 32 = zlc x 32
    unfold zlm zlc
    congr 1
    apply Int32.toBitVec_inj.1
    have e1 : ((zI 32).toInt64 &&& 63) = 32 := by decide
    have e2 : ((zI 32).toInt64.toUInt64 &&& Int64.toUInt64 63) = 32 := by decide
    rw [e1, e2]
    simp
    exact bvk x.toBitVec 32 (by decide)
  · show zlm x 48 = zlc x 48
    unfold zlm zlc
    congr 1
    apply Int32.toBitVec_inj.1
    have e1 : ((zI 48).toInt64 &&& 63) = 48 := by decide
    have e2 : ((zI 48).toInt64.toUInt64 &&& Int64.toUInt64 63) = 48 := by decide
    rw [e1, e2]
    simp
    exact bvk x.toBitVec 48 (by decide)
theorem zlc_bd (x : Int64) (b : Int) : 0 ≤ zlc x b ∧ zlc x b ≤ 65535 := by
  unfold zlc
  generalize ((((x).toUInt64 >>> ((zI b : Int32).toInt64.toUInt64 &&& Int64.toUInt64 63)).toInt64).toInt32) = y
  have h : (y &&& 65535).toInt = (y.toBitVec &&& 65535#32).toInt := rfl
  rw [h]
  have h2 : (y.toBitVec &&& 65535#32).toNat ≤ 65535 := by
    rw [BitVec.toNat_and]
    exact Nat.and_le_right
  rw [BitVec.toInt_eq_toNat_of_lt (by omega)]
  omega
/-- what both hold -/
def zJ (σ μ : z_S) : Prop :=
  (σ.1 0 = μ.1 1 ∧ 0 ≤ σ.1 0 ∧ σ.1 0 ≤ 600 ∧ ∀ i : Nat, σ.2 0 i = μ.2 0 i ∧ 0 ≤ μ.2 0 i ∧ μ.2 0 i ≤ 65535) ∧ σ.1 1 = μ.1 6 ∧ (σ.1 2 = μ.1 5 ∧ zB (σ.1 2)) ∧ (σ.1 3 = μ.1 15 ∧ zB (σ.1 3)) ∧ zTxt σ μ ∧ σ.1 27 = μ.1 16 ∧
  (∀ i : Nat, i < 263 → -1 ≤ σ.2 18 i ∧ σ.2 18 i ≤ 60000) ∧ (σ.1 2 = 1 → pProg σ μ) ∧
  (σ.1 3 = 1 → σ.1 2 = 1 ∧ ∀ k : Nat, k ≤ 20 → σ.2 18 k = μ.2 17 (2 * k) ∧ (0 ≤ σ.2 18 k → σ.2 18 (21 + k) = μ.2 17 (2 * k + 1)) ∧ (σ.2 18 k < 0 → μ.2 17 (2 * k + 1) = -1))
theorem zJ_0 : zJ zC0 zM0 := by
  refine ⟨⟨rfl, by decide, by decide, fun i => ⟨rfl, (by decide : (0 : Int) ≤ 0), (by decide : (0 : Int) ≤ 65535)⟩⟩, rfl, ⟨rfl, Or.inl rfl⟩, ⟨rfl, Or.inl rfl⟩, ⟨rfl, by decide, by decide, fun i => ⟨rfl, (by decide : (0 : Int) ≤ 0), (by decide : (0 : Int) ≤ 65535)⟩⟩, rfl, fun i _ => ⟨(by decide : (-1 : Int) ≤ 0), (by decide : (0 : Int) ≤ 60000)⟩, fun h => absurd h (by decide), fun h => absurd h (by decide)⟩
/-- the reference's note of a throw is no part of it -/
theorem zJ_t {σ μ : z_S} {v : Int} (h : zJ σ μ) : zJ σ (zF μ 0 v) := by
  obtain ⟨a1, a2, a3, a4, a5, a6, a7, a8, a9⟩ := h
  exact ⟨a1, a2, a3, a4, a5, a6, a7, fun e => pProg_mv rfl (cutM_fr (zfr_F (ks := [0]) (js := []) zfr_rf (by simp)) (by simp) (by simp)) (a8 e), a9⟩
section CA
variable {σ μ : z_S}
theorem J_place (h : zJ σ μ) : ∃ N v σ' M μ', zDesk_place N σ = some (v, σ') ∧ zMod_place M μ = some (v, μ') ∧ zJ σ' μ' :=
  ⟨0, σ.1 1, σ, 0, _, rfl, by rw [zMod_place_u, ← h.2.1], zJ_t h⟩
theorem J_steps (h : zJ σ μ) : ∃ N v σ' M μ', zDesk_steps N σ = some (v, σ') ∧ zMod_steps M μ = some (v, μ') ∧ zJ σ' μ' :=
  ⟨0, σ.1 27, σ, 0, _, rfl, by rw [zMod_steps_u, ← h.2.2.2.2.2.1], zJ_t h⟩
theorem J_group (h : zJ σ μ) (a b : Int) (hb : zB b) : ∃ N r σ' M v μ', zDesk_group N a b σ = some (r, σ') ∧ zMod_group M a b μ = some (v, μ') ∧ zAns r v (μ'.1 0) ∧ zJ σ' μ' := by
  obtain ⟨a1, a2, a3, a4, a5, a6, a7, a8, a9⟩ := id h
  have h20 : ((2 : Nat) ≤ 0) = False := by simp
  have h10 : ((1 : Nat) ≤ 0) = False := by simp
  have h00 : ((0 : Nat) ≤ 0) = True := by simp
  by_cases c1 : σ.1 3 = 0
  · refine ⟨0, .inr true, σ, 0, 0, zF μ 0 2, ?_, ?_, ⟨rfl, fun w e => by cases e⟩, zJ_t h⟩
    · rw [zDesk_group_u, if_pos c1]
    · rw [zMod_group_u, if_pos (by rw [← a4.1]; exact c1)]; simp only [h20, if_false]
  · have c2 : σ.1 3 = 1 := by rcases a4.2 with e | e; exact absurd e c1; exact e
    obtain ⟨d1, d2⟩ := a9 c2
    obtain ⟨-, -, en, fin, lv, ow, gw, kw, ia, hp⟩ := a8 d1
    obtain ⟨n1, n2, n3, n4, n5, -⟩ := hp.1
    have hm : ¬ μ.1 15 = 0 := by rw [← a4.1]; exact c1
    have hG := zDesk_group_u 0 a b σ
    rw [if_neg c1] at hG
    by_cases c3 : 0 ≤ a ∧ a ≤ μ.1 9
    · rw [if_neg (by omega), if_pos (by omega)] at hG
      obtain ⟨g1, g2, g3⟩ := d2 a.toNat (by omega)
      have hgb : zMachine_groupBegin 0 a σ = some (σ.2 18 a.toNat, σ) := by
        rw [zMachine_groupBegin_u, if_pos (show zin (0 + a) from ⟨by omega, by omega⟩), Int.zero_add, zrr (by decide) c3.1 (by show a < (263 : Int); omega)]; rfl
      have hmi : zMod_in 0 a 0 (μ.1 9) μ = some (1, μ) := by rw [zm_in, decide_eq_true ⟨c3.1, c3.2⟩]; rfl
      have i1 : zin (2 * a) := ⟨by omega, by omega⟩
      have i2 : zin (2 * a + 0) := ⟨by omega, by omega⟩
      have i3 : zin (2 * a + 1) := ⟨by omega, by omega⟩
      have i4 : zIn (2 * a + 0) 42 := ⟨by omega, by omega⟩
      have i5 : zIn (2 * a + 1) 42 := ⟨by omega, by omega⟩
      have t1 : (2 * a + 0).toNat = 2 * a.toNat := by omega
      have t2 : (2 * a + 1).toNat = 2 * a.toNat + 1 := by omega
      by_cases c4 : b = 0
      · rw [if_pos c4, hgb] at hG
        refine ⟨0, .inl (σ.2 18 a.toNat), σ, 0, σ.2 18 a.toNat, zF μ 0 0, hG, ?_, ⟨rfl, fun w e => by cases e; rfl⟩, zJ_t h⟩
        rw [zMod_group_u, if_neg hm, hmi]
        simp only [Option.bind_some, Int.reduceEq, if_false, h00, if_true, if_pos c4, if_pos i1, if_pos i2, if_pos i4, t1, zF_2, ← g1]
      · rw [if_neg c4] at hG
        by_cases c5 : 0 ≤ σ.2 18 a.toNat
        · have hge : zMachine_groupEnd 0 a σ = some (σ.2 18 (21 + a.toNat), σ) := by
            rw [zMachine_groupEnd_u, hgb]
            simp only [Option.bind_some]
            rw [if_pos c5, if_pos (show zin (21 + a) from ⟨by omega, by omega⟩), zrr (by decide) (by omega) (by show _ < (263 : Int); omega), show (21 + a).toNat = 21 + a.toNat by omega]; rfl
          rw [hge] at hG
          refine ⟨0, .inl (σ.2 18 (21 + a.toNat)), σ, 0, σ.2 18 (21 + a.toNat), zF μ 0 0, hG, ?_, ⟨rfl, fun w e => by cases e; rfl⟩, zJ_t h⟩
          rw [zMod_group_u, if_neg hm, hmi]
          simp only [Option.bind_some, Int.reduceEq, if_false, h00, if_true, if_neg c4, if_pos i1, if_pos i3, if_pos i5, t2, zF_2, ← g2 c5]
        · have hge : zMachine_groupEnd 0 a σ = some (-1, σ) := by
            rw [zMachine_groupEnd_u, hgb]
            simp only [Option.bind_some]
            rw [if_neg c5]
          rw [hge] at hG
          refine ⟨0, .inl (-1), σ, 0, -1, zF μ 0 0, hG, ?_, ⟨rfl, fun w e => by cases e; rfl⟩, zJ_t h⟩
          rw [zMod_group_u, if_neg hm, hmi]
          simp only [Option.bind_some, Int.reduceEq, if_false, h00, if_true, if_neg c4, if_pos i1, if_pos i3, if_pos i5, t2, zF_2, g3 (by omega)]
    · refine ⟨0, .inr false, σ, 0, 0, zF μ 0 1, ?_, ?_, ⟨rfl, fun w e => by cases e⟩, zJ_t h⟩
      · rw [hG]
        by_cases c4 : a < 0
        · rw [if_pos c4]
        · rw [if_neg c4, if_neg (by omega)]
      · have hmi : zMod_in 0 a 0 (μ.1 9) μ = some (0, μ) := by rw [zm_in, decide_eq_false c3]; rfl
        rw [zMod_group_u, if_neg hm, hmi]
        simp only [Option.bind_some, if_true, h10, if_false]
theorem J_putl {N : Nat} {x : Int64} : ∀ (n : Nat) (k : Int) (σ μ : z_S), -1 ≤ k → k ≤ 3 → k + 2 ≤ n → σ.1 0 + k + 1 ≤ 600 → zJ σ μ → μ.1 0 = 0 → ∃ v σ' μ', zDesk_put_l47 N n x k σ = some (.inl v, σ') ∧ zMod_put_l48 N n x k μ = some (v, μ') ∧ zJ σ' μ' ∧ μ'.1 0 = 0 := by
  intro n
  induction n with
  | zero => intro k σ μ h1 h2 h3; omega
  | succ n ih =>
    intro k σ μ h1 h2 h3 h4 hJ ht
    obtain ⟨a1, a2, a3, a4, a5, a6, a7, a8, a9⟩ := id hJ
    by_cases c : k < 0
    · refine ⟨σ.1 0, σ, μ, ?_, ?_, hJ, ht⟩
      · rw [zDesk_put_l47_s, if_pos c]
      · rw [zMod_put_l48_s, if_pos c, ← a1.1]
    · have hJ2 : zJ (zF (zA σ 0 (σ.1 0).toNat (zlc x (16 * k))) 0 (σ.1 0 + 1)) (zF (zA μ 0 (μ.1 1).toNat (zlm x (16 * k))) 1 (μ.1 1 + 1)) := by
        refine ⟨⟨?_, ?_, ?_, fun i => ?_⟩, a2, a3, a4, a5, a6, a7, fun e => pProg_mv (cutC_fr (zfr_F (zfr_A (ks := [0]) (js := [0]) zfr_rf (by simp)) (by simp)) (by simp) (by simp)) (cutM_fr (zfr_F (zfr_A (ks := [1]) (js := [0]) zfr_rf (by simp)) (by simp)) (by simp) (by simp)) (a8 e), a9⟩
        · show σ.1 0 + 1 = μ.1 1 + 1; omega
        · show 0 ≤ σ.1 0 + 1; omega
        · show σ.1 0 + 1 ≤ 600; omega
        · show zupd (σ.2 0) (σ.1 0).toNat (zlc x (16 * k)) i = zupd (μ.2 0) (μ.1 1).toNat (zlm x (16 * k)) i ∧ 0 ≤ zupd (μ.2 0) (μ.1 1).toNat (zlm x (16 * k)) i ∧ zupd (μ.2 0) (μ.1 1).toNat (zlm x (16 * k)) i ≤ 65535
          rw [zlmc x k (by omega) h2, ← a1.1]
          by_cases e : i = (σ.1 0).toNat
          · rw [e, zupd_s, zupd_s]; exact ⟨rfl, zlc_bd _ _⟩
          · rw [zupd_n e, zupd_n e]; exact a1.2.2.2 i
      obtain ⟨v, σ', μ', e1, e2, e3, e4⟩ := ih (k + -1) _ _ (by omega) (by omega) (by omega) (by show σ.1 0 + 1 + (k + -1) + 1 ≤ 600; omega) hJ2 ht
      refine ⟨v, σ', μ', ?_, ?_, e3, e4⟩
      · rw [zDesk_put_l47_s, if_neg c, if_pos (show zin (16 * k) from ⟨by omega, by omega⟩), zrw (by decide) a1.2.1 (by show σ.1 0 < (600 : Int); omega)]
        simp only [Option.bind_some]
        rw [if_pos (show zin (k + -1) from ⟨by omega, by omega⟩), if_pos (show zin ((zA σ 0 (σ.1 0).toNat (zlc x (16 * k))).1 0 + 1) from ⟨by show -2147483648 ≤ σ.1 0 + 1; omega, by show σ.1 0 + 1 < 2147483648; omega⟩)]
        exact e1
      · rw [zMod_put_l48_s, if_neg c, if_pos (show zIn (μ.1 1) 600 from ⟨by omega, by omega⟩), if_pos (show zin (k + -1) from ⟨by omega, by omega⟩), if_pos (show zin (16 * k) from ⟨by omega, by omega⟩), if_pos (show zin (μ.1 1 + 1) from ⟨by omega, by omega⟩)]
        exact e2
end CA
