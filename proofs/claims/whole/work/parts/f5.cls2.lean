section CM
variable {N : Nat} {σ μ σ' μ' : z_S}
theorem zcl_w (hx : xL σ μ) (hw : 0 ≤ σ.1 13) {n : Nat} {x1 x2 x3 x4 : Int} : zReader_readClass_l56 N (n + 1) x1 x2 x3 x4 σ = some (0, σ) := by
  rw [zReader_readClass_l56_s, zua hx]
  simp only [Option.bind_some, if_pos hw]
  split
  · rfl
  · split
    · rfl
    · split <;> rfl
theorem zcl_out (hx : xL σ μ) (hw : σ.1 13 = -1) (hp : σ.1 12 = μ.1 2) {n : Nat} {x1 x2 x3 x4 : Int} (h4 : x4 < 200) : zReader_readClass_l56 N (n + 1) x1 x2 x3 x4 σ = some (0, zF σ 13 (μ.1 2)) := by
  have h1 := hx.1
  have h2 := hx.2.1
  rw [zReader_readClass_l56_s, if_neg (by omega), if_pos (by omega), if_neg (by omega), if_neg (by omega), if_pos (show 0 ≤ (zF σ 13 (σ.1 11)).1 13 by show 0 ≤ σ.1 11; omega), h1]
theorem zcl_end (hx : xL σ μ) (hw : σ.1 13 = -1) {p : Int} (hp : σ.1 12 = p) (h0 : 0 ≤ p) (hpl : p < μ.1 2) (hu : uA μ p = 93) {n : Nat} {x1 x2 x3 x4 : Int} (h4 : x4 < 200) :
    zReader_readClass_l56 N (n + 1) x1 x2 x3 x4 σ = (zReader_addAtom N (if x1 = 0 then 4 else 5) x2 (σ.1 5) (zF σ 12 (p + 1))).bind fun q => some (0, q.2) := by
  have h1 := hx.1
  have h200 := hx.2.2.1
  have i1 : zin (p + 1) := ⟨by omega, by omega⟩
  rw [zReader_readClass_l56_s, if_neg (by omega), if_neg (by omega), zua hx, hp]
  simp only [Option.bind_some]
  rw [if_pos hu, if_neg (by omega), hp, if_pos (by omega), if_neg (by omega), if_pos i1, if_pos i1]
  by_cases c : x1 = 0
  · rw [if_pos c, if_pos c]; rfl
  · rw [if_neg c, if_neg c]; rfl
theorem zcl_1 (hx : xL σ μ) (hw : σ.1 13 = -1) {p : Int} (hp : σ.1 12 = p) (hpl : p < μ.1 2) (hu : uA μ p ≠ 93) {n : Nat} {x1 x2 x3 x4 : Int} (h40 : -1 ≤ x4) (h4 : x4 < 200) {v : Int} {σ1 : z_S} (hm : (if uA μ p = 92 then zReader_readEscape N σ else zReader_takeUnit N σ) = some (v, σ1)) :
    zReader_readClass_l56 N (n + 1) x1 x2 x3 x4 σ = if 0 ≤ σ1.1 13 then zReader_readClass_l56 N n x1 x2 x3 (x4 + 1) σ1 else (zReader_takeMember N x3 v p σ1).bind fun q => zReader_readClass_l56 N n x1 x2 q.1 (x4 + 1) q.2 := by
  have h1 := hx.1
  have i1 : zin (x4 + 1) := ⟨by omega, by omega⟩
  rw [zReader_readClass_l56_s, if_neg (by omega), if_neg (by omega), zua hx, hp]
  simp only [Option.bind_some]
  rw [if_neg hu, if_neg (by omega), hp, zua hx]
  simp only [Option.bind_some, if_pos i1]
  by_cases c : uA μ p = 92
  · rw [if_pos c] at hm
    rw [if_pos c, hm]
    rfl
  · rw [if_neg c] at hm
    rw [if_neg c, hm]
    rfl
theorem zml_w (hx : xL σ μ) {nn : Int} (n0 : 0 ≤ nn) (n1 : nn < 1300) (ha : 0 ≤ μ.1 11) (ha1 : μ.1 11 ≤ 500) (hw : 0 ≤ μ.1 12 ∨ uA μ (μ.1 11) = 93) {n : Nat} : zMod_aClass_l51 N (n + 1) nn μ = some (nn, zA (zF μ 11 (μ.1 11 + 1)) 5 nn.toNat (μ.1 10)) := by
  show zMod_aClass_b51 N (zMod_aClass_l51 N n) nn μ = _
  have h262 : zMod_aClass_b262 N nn μ = some (nn, zA (zF μ 11 (μ.1 11 + 1)) 5 nn.toNat (μ.1 10)) := by
    unfold zMod_aClass_b262
    rw [if_pos (show zIn nn 1300 from ⟨n0, by omega⟩), if_pos (show zin (μ.1 11 + 1) from ⟨by omega, by omega⟩)]
  unfold zMod_aClass_b51
  rw [zse hx 0 (by omega) (by omega), Int.add_zero]
  simp only [Option.bind_some]
  by_cases c : uA μ (μ.1 11) = 93
  · rw [if_pos c, h262]
  · rw [if_neg c]
    unfold zMod_aClass_b61
    rw [if_pos (by rcases hw with z | z; exact z; exact absurd z c), h262]
def mT (N : Nat) (k : Int → z_S → Option (Int × z_S)) (nn how : Int) (μ : z_S) : Option (Int × z_S) := if zIn (μ.1 10) 200 then if how = 1 then zMod_aClass_b99 N k nn how (μ.1 10) (zA μ 12 (μ.1 10).toNat (μ.1 13)) else zMod_aClass_b103 N k nn how (μ.1 10) (zA μ 12 (μ.1 10).toNat (μ.1 13)) else none
theorem zml_1 (hx : xL σ μ) {nn : Int} (ha : 0 ≤ μ.1 11) (ha1 : μ.1 11 ≤ 500) (hw : μ.1 12 < 0) (hu : uA μ (μ.1 11) ≠ 93) {n : Nat} : zMod_aClass_l51 N (n + 1) nn μ = (zMod_member N μ).bind fun q => mT N (zMod_aClass_l51 N n) nn q.1 q.2 := by
  show zMod_aClass_b51 N (zMod_aClass_l51 N n) nn μ = _
  unfold zMod_aClass_b51
  rw [zse hx 0 (by omega) (by omega), Int.add_zero]
  simp only [Option.bind_some]
  rw [if_neg hu]
  unfold zMod_aClass_b61
  rw [if_neg (by omega)]
  rfl
/-- low and high of the member -/
def mLH (μ : z_S) (how : Int) : z_S := zA (zA μ 12 (μ.1 10).toNat (μ.1 13)) 13 (μ.1 10).toNat (if how = 1 then -1 else μ.1 13)
theorem mLH_1 {how : Int} : (mLH μ how).1 = μ.1 := rfl
theorem mLH_fr {how : Int} : zfr [] [12, 13] μ (mLH μ how) := zfr_A (zfr_A zfr_rf (by simp)) (by simp)
theorem mT_107 {k : Int → z_S → Option (Int × z_S)} {nn how : Int} (m0 : 0 ≤ μ.1 10) (m1 : μ.1 10 < 200) : mT N k nn how μ = (zMod_see N 0 (mLH μ how)).bind fun q => if q.1 = 45 then zMod_aClass_b118 N k nn how q.2 else zMod_aClass_b132 N k nn how q.2 := by
  unfold mT mLH
  rw [if_pos (show zIn (μ.1 10) 200 from ⟨m0, by omega⟩)]
  by_cases c : how = 1
  · rw [if_pos c, if_pos c]
    unfold zMod_aClass_b99 zMod_aClass_b107
    rw [if_pos (show zIn (μ.1 10) 200 from ⟨m0, by omega⟩)]
  · rw [if_neg c, if_neg c]
    unfold zMod_aClass_b103 zMod_aClass_b107
    rw [if_pos (show zIn (μ.1 10) 200 from ⟨m0, by omega⟩)]
    rfl
theorem mT_all (hx : xL σ μ) {k : Int → z_S → Option (Int × z_S)} {nn how : Int} (m0 : 0 ≤ μ.1 10) (m1 : μ.1 10 < 200) (ha : 0 ≤ μ.1 11) (ha1 : μ.1 11 ≤ 500) :
    mT N k nn how μ = if uA μ (μ.1 11) = 45 ∧ uA μ (μ.1 11 + 1) ≠ 93 then
        (if 0 ≤ μ.1 12 then k nn (zF (mLH μ how) 10 (μ.1 10 + 1)) else if uA μ (μ.1 11 + 1) < 0 then k nn (zF (zF (mLH μ how) 12 (μ.1 2)) 10 (μ.1 10 + 1)) else if how = 1 then k nn (zF (zF (mLH μ how) 12 (μ.1 11)) 10 (μ.1 10 + 1)) else zMod_aClass_b186 N k nn (mLH μ how))
      else k nn (zF (mLH μ how) 10 (μ.1 10 + 1)) := by
  have hxl : xL σ (mLH μ how) := xL_mv hx rfl rfl rfl rfl
  have hul : uA (mLH μ how) = uA μ := uA_mv rfl rfl
  have iz : zin (μ.1 10 + 1) := ⟨by omega, by omega⟩
  have s0 : zMod_see N 0 (mLH μ how) = some (uA μ (μ.1 11), mLH μ how) := by
    rw [zse hxl 0 (by show 0 ≤ μ.1 11 + 0; omega) (by show μ.1 11 + 0 < 1000; omega), hul]
    show some (uA μ (μ.1 11 + 0), _) = _
    rw [Int.add_zero]
  have s1 : zMod_see N 1 (mLH μ how) = some (uA μ (μ.1 11 + 1), mLH μ how) := by
    rw [zse hxl 1 (by show 0 ≤ μ.1 11 + 1; omega) (by show μ.1 11 + 1 < 1000; omega), hul]
    rfl
  have b249 : ∀ τ : z_S, τ.1 10 = μ.1 10 → zMod_aClass_b249 N k nn τ = k nn (zF τ 10 (μ.1 10 + 1)) := fun τ e => by
    unfold zMod_aClass_b249
    rw [e, if_pos iz]
  have b132 : zMod_aClass_b132 N k nn how (mLH μ how) = k nn (zF (mLH μ how) 10 (μ.1 10 + 1)) := by
    unfold zMod_aClass_b132 zMod_aClass_b133 zMod_aClass_b156 zMod_aClass_b174
    rw [if_pos rfl, if_pos rfl, if_pos rfl, b249 _ (by rfl)]
  rw [mT_107 m0 m1, s0]
  simp only [Option.bind_some]
  by_cases c1 : uA μ (μ.1 11) = 45
  · rw [if_pos c1]
    unfold zMod_aClass_b118
    rw [s1]
    simp only [Option.bind_some]
    by_cases c2 : uA μ (μ.1 11 + 1) = 93
    · rw [if_pos c2, if_neg (fun z => z.2 c2), b132]
    · rw [if_neg c2, if_pos ⟨c1, c2⟩]
      unfold zMod_aClass_b128 zMod_aClass_b133 zMod_aClass_b140
      rw [if_neg (by decide), s1]
      simp only [Option.bind_some]
      have b174 : ∀ τ : z_S, τ.1 10 = μ.1 10 → 0 ≤ τ.1 12 → zMod_aClass_b174 N k nn 1 τ = k nn (zF τ 10 (μ.1 10 + 1)) := fun τ e e2 => by
        unfold zMod_aClass_b174 zMod_aClass_b179
        rw [if_neg (by decide), if_pos e2, b249 _ e]
      have b156 : ∀ τ : z_S, τ.1 10 = μ.1 10 → 0 ≤ τ.1 12 → zMod_aClass_b156 N k nn how 1 τ = k nn (zF τ 10 (μ.1 10 + 1)) := fun τ e e2 => by
        unfold zMod_aClass_b156 zMod_aClass_b161 zMod_aClass_b166
        rw [if_neg (by decide), zfb e2]
        simp only [Option.bind_some]
        rw [b174 τ e e2, ite_self]
      by_cases c3 : 0 ≤ μ.1 12
      · rw [if_pos c3]
        by_cases c4 : 0 ≤ uA μ (μ.1 11 + 1)
        · rw [if_pos c4, b156 _ (by rfl) (by exact c3)]
        · rw [if_neg c4]
          unfold zMod_aClass_b148
          rw [zfb (μ := mLH μ how) c3]
          simp only [Option.bind_some]
          rw [b156 _ (by rfl) (by exact c3)]
      · rw [if_neg c3]
        by_cases c4 : 0 ≤ uA μ (μ.1 11 + 1)
        · rw [if_pos c4, if_neg (by omega)]
          unfold zMod_aClass_b156 zMod_aClass_b161
          rw [if_neg (by decide)]
          by_cases c5 : how = 1
          · rw [if_pos c5, if_pos c5]
            unfold zMod_aClass_b166
            rw [zfa (μ := mLH μ how) (by show μ.1 12 < 0; omega)]
            simp only [Option.bind_some]
            rw [b174 _ (by rfl) (by exact ha)]
            rfl
          · rw [if_neg c5, if_neg c5]
            unfold zMod_aClass_b174 zMod_aClass_b179
            rw [if_neg (by decide), if_neg (show ¬ 0 ≤ (mLH μ how).1 12 from c3)]
        · rw [if_neg c4, if_pos (by omega)]
          unfold zMod_aClass_b148
          rw [zfa (μ := mLH μ how) (by show μ.1 12 < 0; omega)]
          simp only [Option.bind_some]
          rw [b156 _ (by rfl) (by exact hx.2.1)]
          rfl
  · rw [if_neg c1, if_neg (fun z => c1 z.1), b132]
/-- the last of a range -/
theorem m186 {k : Int → z_S → Option (Int × z_S)} {nn how2 : Int} {μ2 : z_S} (ha : 0 ≤ μ.1 11) (ha1 : μ.1 11 ≤ 500) (hm : zMod_member N (zF μ 11 (μ.1 11 + 1)) = some (how2, μ2)) (m0 : 0 ≤ μ2.1 10) (m1 : μ2.1 10 < 200) :
    zMod_aClass_b186 N k nn μ = k nn (zF (zA (if how2 = 1 ∨ μ2.1 13 < μ2.2 12 (μ2.1 10).toNat then zF μ2 12 (if 0 ≤ μ2.1 12 then μ2.1 12 else μ.1 11 + 1) else μ2) 13 (μ2.1 10).toNat (μ2.1 13)) 10 (μ2.1 10 + 1)) := by
  have iz : zin (μ2.1 10 + 1) := ⟨by omega, by omega⟩
  have j : zIn (μ2.1 10) 200 := ⟨m0, by omega⟩
  unfold zMod_aClass_b186
  rw [if_pos (show zin (μ.1 11 + 1) from ⟨by omega, by omega⟩), hm]
  simp only [Option.bind_some]
  have b236 : ∀ τ : z_S, τ.1 10 = μ2.1 10 → zMod_aClass_b236 N k nn τ = k nn (zF (zA τ 13 (μ2.1 10).toNat (τ.1 13)) 10 (μ2.1 10 + 1)) := fun τ e => by
    unfold zMod_aClass_b236 zMod_aClass_b249
    rw [e, if_pos j]
    show (if zin (τ.1 10 + 1) then k nn (zF (zA τ 13 (μ2.1 10).toNat (τ.1 13)) 10 (τ.1 10 + 1)) else none) = _
    rw [e, if_pos iz]
  have b230 : zMod_aClass_b230 N k nn (μ.1 11 + 1) μ2 = k nn (zF (zA (zF μ2 12 (if 0 ≤ μ2.1 12 then μ2.1 12 else μ.1 11 + 1)) 13 (μ2.1 10).toNat (μ2.1 13)) 10 (μ2.1 10 + 1)) := by
    unfold zMod_aClass_b230
    rw [zfc]
    simp only [Option.bind_some]
    rw [b236 _ (by rfl)]
    rfl
  by_cases c : how2 = 1
  · rw [if_pos c, if_pos (Or.inl c), b230]
  · rw [if_neg c]
    unfold zMod_aClass_b214
    rw [if_pos j]
    by_cases c2 : μ2.2 12 (μ2.1 10).toNat ≤ μ2.1 13
    · rw [if_pos c2, if_neg (fun z => by rcases z with z | z; exact c z; omega), b236 _ (by rfl)]
    · rw [if_neg c2, if_pos (Or.inr (by omega)), b230]
end CM
