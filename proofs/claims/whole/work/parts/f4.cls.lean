/-! the members of a class, read by both -/
section CL
variable {N : Nat} {σ μ σ' μ' : z_S}
def mR (σ μ σ' μ' : z_S) (a v how : Int) : Prop := zfr [12, 13] [] σ σ' ∧ zfr [11, 12, 13] [] μ μ' ∧
  ((σ'.1 13 = -1 ∧ μ'.1 12 = -1 ∧ σ'.1 12 = μ'.1 11 ∧ a + 1 ≤ σ'.1 12 ∧ σ'.1 12 ≤ μ.1 2 ∧ ((how = 0 ∧ v = μ'.1 13 ∧ 0 ≤ v ∧ v ≤ 65535) ∨ (how = 1 ∧ v = 65536 + μ'.1 13 ∧ uLt (μ'.1 13)))) ∨
   (0 ≤ σ'.1 13 ∧ μ'.1 12 = σ'.1 13 ∧ 0 ≤ μ'.1 11 ∧ μ'.1 11 ≤ 410))
theorem zMem (hN : 1000 ≤ N) (hx : xL σ μ) {a : Int} (ha : σ.1 12 = a) (hm : μ.1 11 = a) (h0 : 0 ≤ a) (h1 : a < μ.1 2) (hs : σ.1 13 = -1) (hw : μ.1 12 = -1) :
    ∃ v how σ' μ', (if uA μ a = 92 then zReader_readEscape N σ else zReader_takeUnit N σ) = some (v, σ') ∧ zMod_member N μ = some (how, μ') ∧ mR σ μ σ' μ' a v how := by
  have h200 := hx.2.2.1
  have hub := uA_bd hx a
  have hge : 0 ≤ uA μ a := hub.2.2.mpr ⟨h0, h1⟩
  have hse : zMod_see N 0 μ = some (uA μ a, μ) := by rw [zse hx 0 (by omega) (by omega), hm, Int.add_zero]
  by_cases c : uA μ a = 92
  · obtain ⟨v, how, σ', μ', e1, e2, e3, e4, e5⟩ := zEsc (σ := σ) (μ := zF μ 11 (a + 1)) (a := a) (ic := 1) hN (xL_mv hx rfl rfl rfl rfl) ha rfl h0 h1 hs hw (Or.inr rfl) (fun z => absurd z (by decide))
    refine ⟨v, how, σ', μ', by rw [if_pos c]; exact e1, ?_, e3, zfr_tr (zfr_F zfr_rf (by simp)) e4, ?_⟩
    · rw [zMod_member_u, hse]
      simp only [Option.bind_some]
      rw [if_pos hge, hse]
      simp only [Option.bind_some]
      rw [if_pos c, hm, if_pos (show zin (a + 1) from ⟨by omega, by omega⟩), e2]
      rfl
    · rcases e5 with ⟨q1, q2, q3, q4, q5, q6⟩ | ⟨q1, q2, q3, q4⟩
      · exact Or.inl ⟨q1, q2, q3, by omega, q5, q6⟩
      · exact Or.inr ⟨q1, q2, by omega, by omega⟩
  · refine ⟨uA μ a, 0, zF σ 12 (a + 1), zF (zF μ 13 (uA μ a)) 11 (a + 1), ?_, ?_, zfr_F zfr_rf (by simp), zfr_F (zfr_F zfr_rf (by simp)) (by simp), Or.inl ⟨hs, hw, rfl, Int.le_refl _, by show a + 1 ≤ μ.1 2; omega, Or.inl ⟨rfl, rfl, hge, by omega⟩⟩⟩
    · rw [if_neg c, zReader_takeUnit_u, zua hx, ha]
      simp only [Option.bind_some]
      rw [ha, if_pos (show zin (a + 1) from ⟨by omega, by omega⟩)]
    · rw [zMod_member_u, hse]
      simp only [Option.bind_some]
      rw [if_pos hge, hse]
      simp only [Option.bind_some]
      rw [if_neg c, hse]
      simp only [Option.bind_some]
      rw [hm, if_pos (show zin (a + 1) from ⟨by omega, by omega⟩)]
/-- a member where there is none -/
theorem zMem_no (hx : xL σ μ) (hm : μ.1 11 = μ.1 2) (hw : μ.1 12 = -1) : zMod_member N μ = some (0, zF (zF (zF μ 12 (μ.1 2)) 13 (-1)) 11 (μ.1 2 + 1)) := by
  have h200 := hx.2.2.1
  have h0 := hx.2.1
  have hu : uA μ (μ.1 2) = -1 := by unfold uA; rw [if_neg (by omega)]
  have hse : zMod_see N 0 μ = some (-1, μ) := by rw [zse hx 0 (by omega) (by omega), hm, Int.add_zero, hu]
  have hse2 : zMod_see N 0 (zF μ 12 (μ.1 2)) = some (-1, zF μ 12 (μ.1 2)) := by
    rw [zse (xL_mv hx rfl rfl rfl rfl : xL σ (zF μ 12 (μ.1 2))) 0 (by show 0 ≤ μ.1 11 + 0; omega) (by show μ.1 11 + 0 < 1000; omega), uA_mv (μ' := zF μ 12 (μ.1 2)) (μ := μ) rfl rfl]
    show some (uA μ (μ.1 11 + 0), _) = _
    rw [hm, Int.add_zero, hu]
  rw [zMod_member_u, hse]
  simp only [Option.bind_some]
  rw [if_neg (by decide), zfa (by omega)]
  simp only [Option.bind_some]
  rw [hse2]
  simp only [Option.bind_some]
  rw [if_neg (by decide), hse2]
  simp only [Option.bind_some]
  rw [if_pos (show zin _ from ⟨by show -2147483648 ≤ μ.1 11 + 1; omega, by show μ.1 11 + 1 < 2147483648; omega⟩)]
  show some (0, zF (zF (zF μ 12 (μ.1 2)) 13 (-1)) 11 (μ.1 11 + 1)) = _
  rw [hm]
def cMem (σ : z_S) (lo hi : Int) : z_S := zF (zA (zA σ 5 (σ.1 5).toNat lo) 6 (σ.1 5).toNat hi) 5 (σ.1 5 + 1)
theorem cMem_e {lo hi : Int} (h0 : 0 ≤ σ.1 5) (h1 : σ.1 5 < 200) : zProgram_addMember N lo hi σ = some (0, cMem σ lo hi) := by
  rw [zProgram_addMember_u, if_neg (by omega), if_neg (by omega), if_pos (show zIn (σ.1 5) 200 from ⟨h0, by omega⟩), if_pos (show zin (σ.1 5 + 1) from ⟨by omega, by omega⟩)]
  rfl
theorem cMem_fr {lo hi : Int} : zfr [5] [5, 6] σ (cMem σ lo hi) := zfr_F (zfr_A (zfr_A zfr_rf (by simp)) (by simp)) (by simp)
/-- a member: alone, or the first of a range, or the last -/
theorem zTM (hx : xL σ μ) {x v b p : Int} (hp : σ.1 12 = p) (h0 : 0 ≤ p) (h1 : p ≤ 200) (m0 : 0 ≤ σ.1 5) (m1 : σ.1 5 < 200) (hxm : x ≠ -1 → v < 65536 ∨ 65536 ≤ v) :
    zReader_takeMember N x v b σ = if x = -1 then (if uA μ p = 45 ∧ p + 1 < μ.1 2 ∧ uA μ (p + 1) ≠ 93 then (if v < 65536 then some (v, zF σ 12 (p + 1)) else some (v, zF (zF σ 13 p) 12 (p + 1))) else some (-1, cMem σ v v))
      else (if v < 65536 ∧ x ≤ v then some (-1, cMem σ x v) else some (-1, cMem (zF σ 13 b) x v)) := by
  have h10 : ((1 : Nat) = 0) = False := by simp
  have i1 : zin (p + 1) := ⟨by omega, by omega⟩
  have e1 : zProgram_addMember N v v σ = some (0, cMem σ v v) := cMem_e m0 m1
  have e2 : zProgram_addMember N x v σ = some (0, cMem σ x v) := cMem_e m0 m1
  have e3 : zProgram_addMember N x v (zF σ 13 b) = some (0, cMem (zF σ 13 b) x v) := cMem_e (σ := zF σ 13 b) m0 m1
  have e4 : (zF σ 13 p).1 12 = p := hp
  rw [zReader_takeMember_u]
  simp only [h10, if_true, if_false, zua hx, Option.bind_some, hp, e1, e2, e3, e4, if_pos i1, hx.1]
  by_cases c1 : x = -1
  · by_cases c3 : μ.1 2 ≤ p + 1
    · have c3' : ¬ p + 1 < μ.1 2 := by omega
      by_cases c0 : v < 65536 <;> by_cases c2 : uA μ p = 45 <;> simp [c0, c1, c2, c3, c3']
    · have c3' : p + 1 < μ.1 2 := by omega
      by_cases c0 : v < 65536 <;> by_cases c2 : uA μ p = 45 <;> by_cases c4 : uA μ (p + 1) = 93 <;> simp [c0, c1, c2, c3, c3', c4]
  · by_cases c0 : v < 65536 <;> by_cases c2 : x ≤ v <;> simp [c0, c1, c2]
end CL
