def g_bo (a : Int32) : Int32 := if a = 0 then 0 else 1
/-- an answer of the class, held against the reference's and what it says it threw -/
def g_Ans (r : g_R) (v t : Int32) : Prop := t = g_hk r ∧ ∀ w, r = .inl w → w = v
/-- the pure part: the two systems answer alike, from the start on, at every call -/
def g_Sim (I : g_S → g_S → Prop) : Prop := I σC0 σM0 ∧ ∀ σ μ, I σ μ →
  (∀ a b, ∃ N r σ' M v μ', Desk_put N a b σ = some (r, σ') ∧ Mod_put M a b μ = some (v, μ') ∧ g_Ans r v (μ'.1 0) ∧ I σ' μ') ∧
  (∀ a b, ∃ N r σ' M v μ', Desk_pattern N (g_bo a) (g_bo b) σ = some (r, σ') ∧ Mod_pattern M (g_bo a) (g_bo b) μ = some (v, μ') ∧ g_Ans r v (μ'.1 0) ∧ r ≠ .inr true ∧ I σ' μ') ∧
  (∃ N v σ' M μ', Desk_place N σ = some (v, σ') ∧ Mod_place M μ = some (v, μ') ∧ I σ' μ') ∧
  (∃ N v σ' M μ', Desk_text N σ = some (v, σ') ∧ Mod_text M μ = some (v, μ') ∧ I σ' μ') ∧
  (∀ a b, ∃ N r σ' M v μ', Desk_match N a b σ = some (r, σ') ∧ Mod_match M a b μ = some (v, μ') ∧ g_Ans r v (μ'.1 0) ∧ I σ' μ') ∧
  (∀ a b, ∃ N r σ' M v μ', Desk_find N a b σ = some (r, σ') ∧ Mod_find M a b μ = some (v, μ') ∧ g_Ans r v (μ'.1 0) ∧ I σ' μ') ∧
  (∀ a b, ∃ N r σ' M v μ', Desk_group N a (g_bo b) σ = some (r, σ') ∧ Mod_group M a (g_bo b) μ = some (v, μ') ∧ g_Ans r v (μ'.1 0) ∧ I σ' μ') ∧
  (∃ N v σ' M μ', Desk_steps N σ = some (v, σ') ∧ Mod_steps M μ = some (v, μ') ∧ I σ' μ')
theorem law_and7 (x : Int32) : x &&& 7 = 0 ∨ x &&& 7 = 1 ∨ x &&& 7 = 2 ∨ x &&& 7 = 3 ∨ x &&& 7 = 4 ∨ x &&& 7 = 5 ∨ x &&& 7 = 6 ∨ x &&& 7 = 7 := by
  have h : (x &&& 7).toUInt32.toNat ≤ 7 := by
    show (x.toUInt32 &&& 7).toNat ≤ 7
    rw [UInt32.toNat_and]
    exact Nat.and_le_right
  have key : ∀ n : Nat, n < 8 → (x &&& 7).toUInt32.toNat = n → x &&& 7 = (UInt32.ofNat n).toInt32 := fun n hn e => by
    have : (x &&& 7).toUInt32 = UInt32.ofNat n := by
      apply UInt32.toNat_inj.mp
      rw [e]
      exact (Nat.mod_eq_of_lt (by omega : n < 4294967296)).symm
    rw [← this]
    rfl
  have hc : (x &&& 7).toUInt32.toNat = 0 ∨ (x &&& 7).toUInt32.toNat = 1 ∨ (x &&& 7).toUInt32.toNat = 2 ∨ (x &&& 7).toUInt32.toNat = 3 ∨ (x &&& 7).toUInt32.toNat = 4 ∨ (x &&& 7).toUInt32.toNat = 5 ∨ (x &&& 7).toUInt32.toNat = 6 ∨ (x &&& 7).toUInt32.toNat = 7 := by omega
  rcases hc with e | e | e | e | e | e | e | e
  · exact Or.inl (key 0 (by decide) e)
  · exact Or.inr (Or.inl (key 1 (by decide) e))
  · exact Or.inr (Or.inr (Or.inl (key 2 (by decide) e)))
  · exact Or.inr (Or.inr (Or.inr (Or.inl (key 3 (by decide) e))))
  · exact Or.inr (Or.inr (Or.inr (Or.inr (Or.inl (key 4 (by decide) e)))))
  · exact Or.inr (Or.inr (Or.inr (Or.inr (Or.inr (Or.inl (key 5 (by decide) e))))))
  · exact Or.inr (Or.inr (Or.inr (Or.inr (Or.inr (Or.inr (Or.inl (key 6 (by decide) e)))))))
  · exact Or.inr (Or.inr (Or.inr (Or.inr (Or.inr (Or.inr (Or.inr (key 7 (by decide) e)))))))
theorem law_cmp (x : Int64) : lg_cmp x x = 0 := by simp [lg_cmp]
abbrev lw_w (ao aa bo ba : Nat → Nat) (qo : Nat) (cA cL : ClassId) (σ μ : g_S) (f : Nat → Int64) : va_W := (LC ao aa cA σ ++ g_out qo cL f) ++ LM bo ba cA μ
abbrev lw_l (b : Nat) (ao bo : Nat → Nat) (qo : Nat) (i : Int32) : List (Nat × Value) := [(4, .int i), (0, .ref b), (1, .ref (ao 0)), (2, .ref (bo 0)), (3, .ref qo)]
theorem g_outAtE {a E : va_W} {n qo : Nat} {cL : ClassId} {f : Nat → Int64} (hn : a.length = n) : ((a ++ g_out qo cL f) ++ E)[n]? = some (qo, .inl (cL, 1, .inr (.inl f))) := by
  subst hn
  rw [List.append_assoc, List.getElem?_append_right (Nat.le_refl _), Nat.sub_self]
  rfl
theorem law_upd (w : Int32) (f : Nat → Int64) : g_hf (.inl w) f (0 : Int32).toNatClampNeg = w.toInt64 := by simp [g_hf, vp_updL]
abbrev c_Law_law : ByteArray := code
theorem kn_Law_36 : Cond.constantLong R_Law 36 4294967295 ∈ g_TB := g_mem (List.mem_append_right _ (List.mem_append_right _ (List.mem_append_right _ (List.mem_append_right _ (List.mem_append_right _ (List.mem_of_getElem? (i := 77) (by decide +kernel))))))) rfl
theorem kh_Law_38 : g_okH R_Law 38 y_Law_put c_Law_put 6 [(0, 11, 14, 13), (0, 11, 18, 15)] 4 := ⟨g_mem (List.mem_append_right _ (List.mem_append_right _ (List.mem_append_left _ (List.mem_of_getElem? (i := 38) rfl)))) rfl, g_mem (List.mem_append_right _ (List.mem_append_left _ (List.mem_of_getElem? (i := 0) (by decide +kernel)))) rfl, g_mem (List.mem_append_right _ (List.mem_append_right _ (List.mem_append_left _ (List.mem_of_getElem? (i := 36) (by decide +kernel))))) rfl, g_mem (List.mem_append_right _ (List.mem_append_right _ (List.mem_append_left _ (List.mem_of_getElem? (i := 37) (by decide +kernel))))) rfl, by decide +kernel, by decide +kernel, by decide +kernel⟩
theorem kc_Law_43 : g_okV R_Law 43 y_Mod_put c_Mod_put 5 (some .int) 2 := ⟨g_mem (List.mem_append_right _ (List.mem_append_right _ (List.mem_append_right _ (List.mem_append_right _ (List.mem_append_left _ (List.mem_of_getElem? (i := 107) rfl)))))) rfl, g_mem (List.mem_append_right _ (List.mem_append_left _ (List.mem_of_getElem? (i := 5) (by decide +kernel)))) rfl, g_mem (List.mem_append_right _ (List.mem_append_right _ (List.mem_append_right _ (List.mem_append_right _ (List.mem_append_left _ (List.mem_of_getElem? (i := 104) (by decide +kernel))))))) rfl, g_mem (List.mem_append_right _ (List.mem_append_right _ (List.mem_append_right _ (List.mem_append_right _ (List.mem_append_left _ (List.mem_of_getElem? (i := 105) (by decide +kernel))))))) rfl, g_mem (List.mem_append_right _ (List.mem_append_right _ (List.mem_append_right _ (List.mem_append_right _ (List.mem_append_left _ (List.mem_of_getElem? (i := 106) (by decide +kernel))))))) rfl, by decide +kernel, by decide +kernel, by decide +kernel⟩
theorem kc_Law_44 : g_okV R_Law 44 y_Mod_thrown c_Mod_thrown 1 (some .int) 0 := ⟨g_mem (List.mem_append_right _ (List.mem_append_right _ (List.mem_append_right _ (List.mem_append_right _ (List.mem_append_left _ (List.mem_of_getElem? (i := 103) rfl)))))) rfl, g_mem (List.mem_append_right _ (List.mem_append_left _ (List.mem_of_getElem? (i := 5) (by decide +kernel)))) rfl, g_mem (List.mem_append_right _ (List.mem_append_right _ (List.mem_append_right _ (List.mem_append_right _ (List.mem_append_left _ (List.mem_of_getElem? (i := 100) (by decide +kernel))))))) rfl, g_mem (List.mem_append_right _ (List.mem_append_right _ (List.mem_append_right _ (List.mem_append_right _ (List.mem_append_left _ (List.mem_of_getElem? (i := 101) (by decide +kernel))))))) rfl, g_mem (List.mem_append_right _ (List.mem_append_right _ (List.mem_append_right _ (List.mem_append_right _ (List.mem_append_left _ (List.mem_of_getElem? (i := 102) (by decide +kernel))))))) rfl, by decide +kernel, by decide +kernel, by decide +kernel⟩
theorem kh_Law_48 : g_okH R_Law 48 y_Law_pattern c_Law_pattern 5 [(0, 10, 13, 13)] 4 := ⟨g_mem (List.mem_append_right _ (List.mem_append_right _ (List.mem_append_left _ (List.mem_of_getElem? (i := 132) rfl)))) rfl, g_mem (List.mem_append_right _ (List.mem_append_left _ (List.mem_of_getElem? (i := 0) (by decide +kernel)))) rfl, g_mem (List.mem_append_right _ (List.mem_append_right _ (List.mem_append_left _ (List.mem_of_getElem? (i := 130) (by decide +kernel))))) rfl, g_mem (List.mem_append_right _ (List.mem_append_right _ (List.mem_append_left _ (List.mem_of_getElem? (i := 131) (by decide +kernel))))) rfl, by decide +kernel, by decide +kernel, by decide +kernel⟩
theorem kc_Law_51 : g_okV R_Law 51 y_Mod_pattern c_Mod_pattern 4 (some .int) 2 := ⟨g_mem (List.mem_append_right _ (List.mem_append_right _ (List.mem_append_right _ (List.mem_append_right _ (List.mem_append_left _ (List.mem_of_getElem? (i := 115) rfl)))))) rfl, g_mem (List.mem_append_right _ (List.mem_append_left _ (List.mem_of_getElem? (i := 5) (by decide +kernel)))) rfl, g_mem (List.mem_append_right _ (List.mem_append_right _ (List.mem_append_right _ (List.mem_append_right _ (List.mem_append_left _ (List.mem_of_getElem? (i := 112) (by decide +kernel))))))) rfl, g_mem (List.mem_append_right _ (List.mem_append_right _ (List.mem_append_right _ (List.mem_append_right _ (List.mem_append_left _ (List.mem_of_getElem? (i := 113) (by decide +kernel))))))) rfl, g_mem (List.mem_append_right _ (List.mem_append_right _ (List.mem_append_right _ (List.mem_append_right _ (List.mem_append_left _ (List.mem_of_getElem? (i := 114) (by decide +kernel))))))) rfl, by decide +kernel, by decide +kernel, by decide +kernel⟩
theorem kh_Law_60 : g_okH R_Law 60 y_Law_match c_Law_match 5 [(0, 10, 13, 13), (0, 10, 17, 15)] 4 := ⟨g_mem (List.mem_append_right _ (List.mem_append_right _ (List.mem_append_right _ (List.mem_append_left _ (List.mem_of_getElem? (i := 53) rfl))))) rfl, g_mem (List.mem_append_right _ (List.mem_append_left _ (List.mem_of_getElem? (i := 0) (by decide +kernel)))) rfl, g_mem (List.mem_append_right _ (List.mem_append_right _ (List.mem_append_right _ (List.mem_append_left _ (List.mem_of_getElem? (i := 51) (by decide +kernel)))))) rfl, g_mem (List.mem_append_right _ (List.mem_append_right _ (List.mem_append_right _ (List.mem_append_left _ (List.mem_of_getElem? (i := 52) (by decide +kernel)))))) rfl, by decide +kernel, by decide +kernel, by decide +kernel⟩
theorem kc_Law_63 : g_okV R_Law 63 y_Mod_match c_Mod_match 4 (some .int) 2 := ⟨g_mem (List.mem_append_right _ (List.mem_append_right _ (List.mem_append_right _ (List.mem_append_right _ (List.mem_append_left _ (List.mem_of_getElem? (i := 219) rfl)))))) rfl, g_mem (List.mem_append_right _ (List.mem_append_left _ (List.mem_of_getElem? (i := 5) (by decide +kernel)))) rfl, g_mem (List.mem_append_right _ (List.mem_append_right _ (List.mem_append_right _ (List.mem_append_right _ (List.mem_append_left _ (List.mem_of_getElem? (i := 216) (by decide +kernel))))))) rfl, g_mem (List.mem_append_right _ (List.mem_append_right _ (List.mem_append_right _ (List.mem_append_right _ (List.mem_append_left _ (List.mem_of_getElem? (i := 217) (by decide +kernel))))))) rfl, g_mem (List.mem_append_right _ (List.mem_append_right _ (List.mem_append_right _ (List.mem_append_right _ (List.mem_append_left _ (List.mem_of_getElem? (i := 218) (by decide +kernel))))))) rfl, by decide +kernel, by decide +kernel, by decide +kernel⟩
theorem kh_Law_64 : g_okH R_Law 64 y_Law_find c_Law_find 5 [(0, 10, 13, 13), (0, 10, 17, 15)] 4 := ⟨g_mem (List.mem_append_right _ (List.mem_append_right _ (List.mem_append_right _ (List.mem_append_left _ (List.mem_of_getElem? (i := 164) rfl))))) rfl, g_mem (List.mem_append_right _ (List.mem_append_left _ (List.mem_of_getElem? (i := 0) (by decide +kernel)))) rfl, g_mem (List.mem_append_right _ (List.mem_append_right _ (List.mem_append_right _ (List.mem_append_left _ (List.mem_of_getElem? (i := 162) (by decide +kernel)))))) rfl, g_mem (List.mem_append_right _ (List.mem_append_right _ (List.mem_append_right _ (List.mem_append_left _ (List.mem_of_getElem? (i := 163) (by decide +kernel)))))) rfl, by decide +kernel, by decide +kernel, by decide +kernel⟩
theorem kc_Law_66 : g_okV R_Law 66 y_Mod_find c_Mod_find 5 (some .int) 2 := ⟨g_mem (List.mem_append_right _ (List.mem_append_right _ (List.mem_append_right _ (List.mem_append_right _ (List.mem_append_right _ (List.mem_of_getElem? (i := 68) rfl)))))) rfl, g_mem (List.mem_append_right _ (List.mem_append_left _ (List.mem_of_getElem? (i := 5) (by decide +kernel)))) rfl, g_mem (List.mem_append_right _ (List.mem_append_right _ (List.mem_append_right _ (List.mem_append_right _ (List.mem_append_right _ (List.mem_of_getElem? (i := 65) (by decide +kernel))))))) rfl, g_mem (List.mem_append_right _ (List.mem_append_right _ (List.mem_append_right _ (List.mem_append_right _ (List.mem_append_right _ (List.mem_of_getElem? (i := 66) (by decide +kernel))))))) rfl, g_mem (List.mem_append_right _ (List.mem_append_right _ (List.mem_append_right _ (List.mem_append_right _ (List.mem_append_right _ (List.mem_of_getElem? (i := 67) (by decide +kernel))))))) rfl, by decide +kernel, by decide +kernel, by decide +kernel⟩
theorem kh_Law_67 : g_okH R_Law 67 y_Law_group c_Law_group 5 [(0, 10, 13, 13), (0, 10, 17, 15)] 4 := ⟨g_mem (List.mem_append_right _ (List.mem_append_right _ (List.mem_append_right _ (List.mem_append_left _ (List.mem_of_getElem? (i := 171) rfl))))) rfl, g_mem (List.mem_append_right _ (List.mem_append_left _ (List.mem_of_getElem? (i := 0) (by decide +kernel)))) rfl, g_mem (List.mem_append_right _ (List.mem_append_right _ (List.mem_append_right _ (List.mem_append_left _ (List.mem_of_getElem? (i := 169) (by decide +kernel)))))) rfl, g_mem (List.mem_append_right _ (List.mem_append_right _ (List.mem_append_right _ (List.mem_append_left _ (List.mem_of_getElem? (i := 170) (by decide +kernel)))))) rfl, by decide +kernel, by decide +kernel, by decide +kernel⟩
theorem kc_Law_70 : g_okV R_Law 70 y_Mod_group c_Mod_group 3 (some .int) 2 := ⟨g_mem (List.mem_append_right _ (List.mem_append_right _ (List.mem_append_right _ (List.mem_append_right _ (List.mem_append_right _ (List.mem_of_getElem? (i := 72) rfl)))))) rfl, g_mem (List.mem_append_right _ (List.mem_append_left _ (List.mem_of_getElem? (i := 5) (by decide +kernel)))) rfl, g_mem (List.mem_append_right _ (List.mem_append_right _ (List.mem_append_right _ (List.mem_append_right _ (List.mem_append_right _ (List.mem_of_getElem? (i := 69) (by decide +kernel))))))) rfl, g_mem (List.mem_append_right _ (List.mem_append_right _ (List.mem_append_right _ (List.mem_append_right _ (List.mem_append_right _ (List.mem_of_getElem? (i := 70) (by decide +kernel))))))) rfl, g_mem (List.mem_append_right _ (List.mem_append_right _ (List.mem_append_right _ (List.mem_append_right _ (List.mem_append_right _ (List.mem_of_getElem? (i := 71) (by decide +kernel))))))) rfl, by decide +kernel, by decide +kernel, by decide +kernel⟩
theorem kc_Law_52 : g_okV R_Law 52 y_Desk_place c_Desk_place 1 (some .int) 0 := ⟨g_mem (List.mem_append_right _ (List.mem_append_right _ (List.mem_append_left _ (List.mem_of_getElem? (i := 17) rfl)))) rfl, g_mem (List.mem_append_right _ (List.mem_append_left _ (List.mem_of_getElem? (i := 1) (by decide +kernel)))) rfl, g_mem (List.mem_append_right _ (List.mem_append_right _ (List.mem_append_left _ (List.mem_of_getElem? (i := 14) (by decide +kernel))))) rfl, g_mem (List.mem_append_right _ (List.mem_append_right _ (List.mem_append_left _ (List.mem_of_getElem? (i := 15) (by decide +kernel))))) rfl, g_mem (List.mem_append_right _ (List.mem_append_right _ (List.mem_append_left _ (List.mem_of_getElem? (i := 16) (by decide +kernel))))) rfl, by decide +kernel, by decide +kernel, by decide +kernel⟩
theorem kc_Law_55 : g_okV R_Law 55 y_Mod_place c_Mod_place 1 (some .int) 0 := ⟨g_mem (List.mem_append_right _ (List.mem_append_right _ (List.mem_append_right _ (List.mem_append_right _ (List.mem_append_left _ (List.mem_of_getElem? (i := 211) rfl)))))) rfl, g_mem (List.mem_append_right _ (List.mem_append_left _ (List.mem_of_getElem? (i := 5) (by decide +kernel)))) rfl, g_mem (List.mem_append_right _ (List.mem_append_right _ (List.mem_append_right _ (List.mem_append_right _ (List.mem_append_left _ (List.mem_of_getElem? (i := 208) (by decide +kernel))))))) rfl, g_mem (List.mem_append_right _ (List.mem_append_right _ (List.mem_append_right _ (List.mem_append_right _ (List.mem_append_left _ (List.mem_of_getElem? (i := 209) (by decide +kernel))))))) rfl, g_mem (List.mem_append_right _ (List.mem_append_right _ (List.mem_append_right _ (List.mem_append_right _ (List.mem_append_left _ (List.mem_of_getElem? (i := 210) (by decide +kernel))))))) rfl, by decide +kernel, by decide +kernel, by decide +kernel⟩
theorem kc_Law_56 : g_okV R_Law 56 y_Desk_text c_Desk_text 2 (some .int) 0 := ⟨g_mem (List.mem_append_right _ (List.mem_append_right _ (List.mem_append_left _ (List.mem_of_getElem? (i := 21) rfl)))) rfl, g_mem (List.mem_append_right _ (List.mem_append_left _ (List.mem_of_getElem? (i := 1) (by decide +kernel)))) rfl, g_mem (List.mem_append_right _ (List.mem_append_right _ (List.mem_append_left _ (List.mem_of_getElem? (i := 18) (by decide +kernel))))) rfl, g_mem (List.mem_append_right _ (List.mem_append_right _ (List.mem_append_left _ (List.mem_of_getElem? (i := 19) (by decide +kernel))))) rfl, g_mem (List.mem_append_right _ (List.mem_append_right _ (List.mem_append_left _ (List.mem_of_getElem? (i := 20) (by decide +kernel))))) rfl, by decide +kernel, by decide +kernel, by decide +kernel⟩
theorem kc_Law_59 : g_okV R_Law 59 y_Mod_text c_Mod_text 2 (some .int) 0 := ⟨g_mem (List.mem_append_right _ (List.mem_append_right _ (List.mem_append_right _ (List.mem_append_right _ (List.mem_append_left _ (List.mem_of_getElem? (i := 215) rfl)))))) rfl, g_mem (List.mem_append_right _ (List.mem_append_left _ (List.mem_of_getElem? (i := 5) (by decide +kernel)))) rfl, g_mem (List.mem_append_right _ (List.mem_append_right _ (List.mem_append_right _ (List.mem_append_right _ (List.mem_append_left _ (List.mem_of_getElem? (i := 212) (by decide +kernel))))))) rfl, g_mem (List.mem_append_right _ (List.mem_append_right _ (List.mem_append_right _ (List.mem_append_right _ (List.mem_append_left _ (List.mem_of_getElem? (i := 213) (by decide +kernel))))))) rfl, g_mem (List.mem_append_right _ (List.mem_append_right _ (List.mem_append_right _ (List.mem_append_right _ (List.mem_append_left _ (List.mem_of_getElem? (i := 214) (by decide +kernel))))))) rfl, by decide +kernel, by decide +kernel, by decide +kernel⟩
theorem kc_Law_71 : g_okV R_Law 71 y_Desk_steps c_Desk_steps 1 (some .int) 0 := ⟨g_mem (List.mem_append_right _ (List.mem_append_right _ (List.mem_append_left _ (List.mem_of_getElem? (i := 35) rfl)))) rfl, g_mem (List.mem_append_right _ (List.mem_append_left _ (List.mem_of_getElem? (i := 1) (by decide +kernel)))) rfl, g_mem (List.mem_append_right _ (List.mem_append_right _ (List.mem_append_left _ (List.mem_of_getElem? (i := 32) (by decide +kernel))))) rfl, g_mem (List.mem_append_right _ (List.mem_append_right _ (List.mem_append_left _ (List.mem_of_getElem? (i := 33) (by decide +kernel))))) rfl, g_mem (List.mem_append_right _ (List.mem_append_right _ (List.mem_append_left _ (List.mem_of_getElem? (i := 34) (by decide +kernel))))) rfl, by decide +kernel, by decide +kernel, by decide +kernel⟩
theorem kc_Law_74 : g_okV R_Law 74 y_Mod_steps c_Mod_steps 1 (some .int) 0 := ⟨g_mem (List.mem_append_right _ (List.mem_append_right _ (List.mem_append_right _ (List.mem_append_right _ (List.mem_append_right _ (List.mem_of_getElem? (i := 76) rfl)))))) rfl, g_mem (List.mem_append_right _ (List.mem_append_left _ (List.mem_of_getElem? (i := 5) (by decide +kernel)))) rfl, g_mem (List.mem_append_right _ (List.mem_append_right _ (List.mem_append_right _ (List.mem_append_right _ (List.mem_append_right _ (List.mem_of_getElem? (i := 73) (by decide +kernel))))))) rfl, g_mem (List.mem_append_right _ (List.mem_append_right _ (List.mem_append_right _ (List.mem_append_right _ (List.mem_append_right _ (List.mem_of_getElem? (i := 74) (by decide +kernel))))))) rfl, g_mem (List.mem_append_right _ (List.mem_append_right _ (List.mem_append_right _ (List.mem_append_right _ (List.mem_append_right _ (List.mem_of_getElem? (i := 75) (by decide +kernel))))))) rfl, by decide +kernel, by decide +kernel, by decide +kernel⟩
theorem k_cl_Law_8 : Cond.classLink R_Law 8 R_Desk ∈ g_TB := g_mem (List.mem_append_right _ (List.mem_append_left _ (List.mem_of_getElem? (i := 14) (by decide +kernel)))) rfl
theorem ki_Law_32 : g_okI R_Law 32 y_Desk_init c_Desk_init 1 0 := ⟨g_mem (List.mem_append_right _ (List.mem_append_left _ (List.mem_of_getElem? (i := 18) rfl))) rfl, g_mem (List.mem_append_right _ (List.mem_append_left _ (List.mem_of_getElem? (i := 1) (by decide +kernel)))) rfl, g_mem (List.mem_append_right _ (List.mem_append_left _ (List.mem_of_getElem? (i := 16) (by decide +kernel)))) rfl, g_mem (List.mem_append_right _ (List.mem_append_left _ (List.mem_of_getElem? (i := 17) (by decide +kernel)))) rfl, by decide +kernel, by decide +kernel, by decide +kernel, by decide +kernel⟩
theorem k_cl_Law_33 : Cond.classLink R_Law 33 R_Mod ∈ g_TB := g_mem (List.mem_append_right _ (List.mem_append_right _ (List.mem_append_right _ (List.mem_append_left _ (List.mem_of_getElem? (i := 187) (by decide +kernel)))))) rfl
theorem ki_Law_35 : g_okI R_Law 35 y_Mod_init c_Mod_init 1 0 := ⟨g_mem (List.mem_append_right _ (List.mem_append_right _ (List.mem_append_right _ (List.mem_append_left _ (List.mem_of_getElem? (i := 191) rfl))))) rfl, g_mem (List.mem_append_right _ (List.mem_append_left _ (List.mem_of_getElem? (i := 5) (by decide +kernel)))) rfl, g_mem (List.mem_append_right _ (List.mem_append_right _ (List.mem_append_right _ (List.mem_append_left _ (List.mem_of_getElem? (i := 189) (by decide +kernel)))))) rfl, g_mem (List.mem_append_right _ (List.mem_append_right _ (List.mem_append_right _ (List.mem_append_left _ (List.mem_of_getElem? (i := 190) (by decide +kernel)))))) rfl, by decide +kernel, by decide +kernel, by decide +kernel, by decide +kernel⟩
theorem d_Law_law_0 : decode c_Law_law 0 = .ok (.new 8, 3) := by decide +kernel
theorem d_Law_law_3 : decode c_Law_law 3 = .ok (.dup, 1) := by decide +kernel
theorem d_Law_law_4 : decode c_Law_law 4 = .ok (.invokespecial 32, 3) := by decide +kernel
theorem d_Law_law_7 : decode c_Law_law 7 = .ok (.astore_n 1, 1) := by decide +kernel
theorem d_Law_law_8 : decode c_Law_law 8 = .ok (.new 33, 3) := by decide +kernel
theorem d_Law_law_11 : decode c_Law_law 11 = .ok (.dup, 1) := by decide +kernel
theorem d_Law_law_12 : decode c_Law_law 12 = .ok (.invokespecial 35, 3) := by decide +kernel
theorem d_Law_law_15 : decode c_Law_law 15 = .ok (.astore_n 2, 1) := by decide +kernel
theorem d_Law_law_16 : decode c_Law_law 16 = .ok (.iconst 1, 1) := by decide +kernel
theorem d_Law_law_17 : decode c_Law_law 17 = .ok (.newarray .long, 2) := by decide +kernel
theorem d_Law_law_19 : decode c_Law_law 19 = .ok (.astore_n 3, 1) := by decide +kernel
theorem d_Law_law_20 : decode c_Law_law 20 = .ok (.iconst 0, 1) := by decide +kernel
theorem d_Law_law_21 : decode c_Law_law 21 = .ok (.istore 4, 2) := by decide +kernel
theorem d_Law_law_23 : decode c_Law_law 23 = .ok (.iload 4, 2) := by decide +kernel
theorem d_Law_law_25 : decode c_Law_law 25 = .ok (.aload_n 0, 1) := by decide +kernel
theorem d_Law_law_26 : decode c_Law_law 26 = .ok (.arraylength, 1) := by decide +kernel
theorem d_Law_law_27 : decode c_Law_law 27 = .ok (.iconst 4, 1) := by decide +kernel
theorem d_Law_law_28 : decode c_Law_law 28 = .ok (.isub, 1) := by decide +kernel
theorem d_Law_law_29 : decode c_Law_law 29 = .ok (.if_icmp .gt 520, 3) := by decide +kernel
theorem d_Law_law_32 : decode c_Law_law 32 = .ok (.aload_n 0, 1) := by decide +kernel
theorem d_Law_law_33 : decode c_Law_law 33 = .ok (.iload 4, 2) := by decide +kernel
theorem d_Law_law_35 : decode c_Law_law 35 = .ok (.iaload, 1) := by decide +kernel
theorem d_Law_law_36 : decode c_Law_law 36 = .ok (.bipush 7, 2) := by decide +kernel
theorem d_Law_law_38 : decode c_Law_law 38 = .ok (.iand, 1) := by decide +kernel
theorem d_Law_law_39 : decode c_Law_law 39 = .ok (.tableswitch 504 0 7 #[45, 145, 245, 258, 271, 339, 407, 491], 45) := by decide +kernel
theorem d_Law_law_84 : decode c_Law_law 84 = .ok (.aload_n 1, 1) := by decide +kernel
theorem d_Law_law_85 : decode c_Law_law 85 = .ok (.aload_n 0, 1) := by decide +kernel
theorem d_Law_law_86 : decode c_Law_law 86 = .ok (.iload 4, 2) := by decide +kernel
theorem d_Law_law_88 : decode c_Law_law 88 = .ok (.iconst 1, 1) := by decide +kernel
theorem d_Law_law_89 : decode c_Law_law 89 = .ok (.iadd, 1) := by decide +kernel
theorem d_Law_law_90 : decode c_Law_law 90 = .ok (.iaload, 1) := by decide +kernel
theorem d_Law_law_91 : decode c_Law_law 91 = .ok (.i2l, 1) := by decide +kernel
theorem d_Law_law_92 : decode c_Law_law 92 = .ok (.bipush 32, 2) := by decide +kernel
theorem d_Law_law_94 : decode c_Law_law 94 = .ok (.lshl, 1) := by decide +kernel
theorem d_Law_law_95 : decode c_Law_law 95 = .ok (.aload_n 0, 1) := by decide +kernel
theorem d_Law_law_96 : decode c_Law_law 96 = .ok (.iload 4, 2) := by decide +kernel
theorem d_Law_law_98 : decode c_Law_law 98 = .ok (.iconst 2, 1) := by decide +kernel
theorem d_Law_law_99 : decode c_Law_law 99 = .ok (.iadd, 1) := by decide +kernel
theorem d_Law_law_100 : decode c_Law_law 100 = .ok (.iaload, 1) := by decide +kernel
theorem d_Law_law_101 : decode c_Law_law 101 = .ok (.i2l, 1) := by decide +kernel
theorem d_Law_law_102 : decode c_Law_law 102 = .ok (.ldc2_w 36, 3) := by decide +kernel
theorem d_Law_law_105 : decode c_Law_law 105 = .ok (.land, 1) := by decide +kernel
theorem d_Law_law_106 : decode c_Law_law 106 = .ok (.lor, 1) := by decide +kernel
theorem d_Law_law_107 : decode c_Law_law 107 = .ok (.aload_n 0, 1) := by decide +kernel
theorem d_Law_law_108 : decode c_Law_law 108 = .ok (.iload 4, 2) := by decide +kernel
theorem d_Law_law_110 : decode c_Law_law 110 = .ok (.iconst 3, 1) := by decide +kernel
theorem d_Law_law_111 : decode c_Law_law 111 = .ok (.iadd, 1) := by decide +kernel
theorem d_Law_law_112 : decode c_Law_law 112 = .ok (.iaload, 1) := by decide +kernel
theorem d_Law_law_113 : decode c_Law_law 113 = .ok (.aload_n 3, 1) := by decide +kernel
theorem d_Law_law_114 : decode c_Law_law 114 = .ok (.invokestatic 38, 3) := by decide +kernel
theorem d_Law_law_117 : decode c_Law_law 117 = .ok (.istore 5, 2) := by decide +kernel
theorem d_Law_law_119 : decode c_Law_law 119 = .ok (.aload_n 2, 1) := by decide +kernel
theorem d_Law_law_120 : decode c_Law_law 120 = .ok (.aload_n 0, 1) := by decide +kernel
theorem d_Law_law_121 : decode c_Law_law 121 = .ok (.iload 4, 2) := by decide +kernel
theorem d_Law_law_123 : decode c_Law_law 123 = .ok (.iconst 1, 1) := by decide +kernel
theorem d_Law_law_124 : decode c_Law_law 124 = .ok (.iadd, 1) := by decide +kernel
theorem d_Law_law_125 : decode c_Law_law 125 = .ok (.iaload, 1) := by decide +kernel
theorem d_Law_law_126 : decode c_Law_law 126 = .ok (.i2l, 1) := by decide +kernel
theorem d_Law_law_127 : decode c_Law_law 127 = .ok (.bipush 32, 2) := by decide +kernel
theorem d_Law_law_129 : decode c_Law_law 129 = .ok (.lshl, 1) := by decide +kernel
theorem d_Law_law_130 : decode c_Law_law 130 = .ok (.aload_n 0, 1) := by decide +kernel
theorem d_Law_law_131 : decode c_Law_law 131 = .ok (.iload 4, 2) := by decide +kernel
theorem d_Law_law_133 : decode c_Law_law 133 = .ok (.iconst 2, 1) := by decide +kernel
theorem d_Law_law_134 : decode c_Law_law 134 = .ok (.iadd, 1) := by decide +kernel
theorem d_Law_law_135 : decode c_Law_law 135 = .ok (.iaload, 1) := by decide +kernel
theorem d_Law_law_136 : decode c_Law_law 136 = .ok (.i2l, 1) := by decide +kernel
theorem d_Law_law_137 : decode c_Law_law 137 = .ok (.ldc2_w 36, 3) := by decide +kernel
theorem d_Law_law_140 : decode c_Law_law 140 = .ok (.land, 1) := by decide +kernel
theorem d_Law_law_141 : decode c_Law_law 141 = .ok (.lor, 1) := by decide +kernel
theorem d_Law_law_142 : decode c_Law_law 142 = .ok (.aload_n 0, 1) := by decide +kernel
theorem d_Law_law_143 : decode c_Law_law 143 = .ok (.iload 4, 2) := by decide +kernel
theorem d_Law_law_145 : decode c_Law_law 145 = .ok (.iconst 3, 1) := by decide +kernel
theorem d_Law_law_146 : decode c_Law_law 146 = .ok (.iadd, 1) := by decide +kernel
theorem d_Law_law_147 : decode c_Law_law 147 = .ok (.iaload, 1) := by decide +kernel
theorem d_Law_law_148 : decode c_Law_law 148 = .ok (.invokevirtual 43, 3) := by decide +kernel
theorem d_Law_law_151 : decode c_Law_law 151 = .ok (.istore 6, 2) := by decide +kernel
theorem d_Law_law_153 : decode c_Law_law 153 = .ok (.aload_n 2, 1) := by decide +kernel
theorem d_Law_law_154 : decode c_Law_law 154 = .ok (.invokevirtual 44, 3) := by decide +kernel
theorem d_Law_law_157 : decode c_Law_law 157 = .ok (.iload 5, 2) := by decide +kernel
theorem d_Law_law_159 : decode c_Law_law 159 = .ok (.if_icmp .eq 5, 3) := by decide +kernel
theorem d_Law_law_162 : decode c_Law_law 162 = .ok (.iconst 0, 1) := by decide +kernel
theorem d_Law_law_163 : decode c_Law_law 163 = .ok (.ireturn, 1) := by decide +kernel
theorem d_Law_law_164 : decode c_Law_law 164 = .ok (.iload 5, 2) := by decide +kernel
theorem d_Law_law_166 : decode c_Law_law 166 = .ok (.ifCond .ne 15, 3) := by decide +kernel
theorem d_Law_law_169 : decode c_Law_law 169 = .ok (.aload_n 3, 1) := by decide +kernel
theorem d_Law_law_170 : decode c_Law_law 170 = .ok (.iconst 0, 1) := by decide +kernel
theorem d_Law_law_171 : decode c_Law_law 171 = .ok (.laload, 1) := by decide +kernel
theorem d_Law_law_172 : decode c_Law_law 172 = .ok (.iload 6, 2) := by decide +kernel
theorem d_Law_law_174 : decode c_Law_law 174 = .ok (.i2l, 1) := by decide +kernel
theorem d_Law_law_175 : decode c_Law_law 175 = .ok (.lcmp, 1) := by decide +kernel
theorem d_Law_law_176 : decode c_Law_law 176 = .ok (.ifCond .eq 5, 3) := by decide +kernel
theorem d_Law_law_179 : decode c_Law_law 179 = .ok (.iconst 0, 1) := by decide +kernel
theorem d_Law_law_180 : decode c_Law_law 180 = .ok (.ireturn, 1) := by decide +kernel
theorem d_Law_law_181 : decode c_Law_law 181 = .ok (.goto 362, 3) := by decide +kernel
theorem d_Law_law_184 : decode c_Law_law 184 = .ok (.aload_n 1, 1) := by decide +kernel
theorem d_Law_law_185 : decode c_Law_law 185 = .ok (.aload_n 0, 1) := by decide +kernel
theorem d_Law_law_186 : decode c_Law_law 186 = .ok (.iload 4, 2) := by decide +kernel
theorem d_Law_law_188 : decode c_Law_law 188 = .ok (.iconst 1, 1) := by decide +kernel
theorem d_Law_law_189 : decode c_Law_law 189 = .ok (.iadd, 1) := by decide +kernel
theorem d_Law_law_190 : decode c_Law_law 190 = .ok (.iaload, 1) := by decide +kernel
theorem d_Law_law_191 : decode c_Law_law 191 = .ok (.ifCond .eq 7, 3) := by decide +kernel
theorem d_Law_law_194 : decode c_Law_law 194 = .ok (.iconst 1, 1) := by decide +kernel
theorem d_Law_law_195 : decode c_Law_law 195 = .ok (.goto 4, 3) := by decide +kernel
theorem d_Law_law_198 : decode c_Law_law 198 = .ok (.iconst 0, 1) := by decide +kernel
theorem d_Law_law_199 : decode c_Law_law 199 = .ok (.aload_n 0, 1) := by decide +kernel
theorem d_Law_law_200 : decode c_Law_law 200 = .ok (.iload 4, 2) := by decide +kernel
theorem d_Law_law_202 : decode c_Law_law 202 = .ok (.iconst 2, 1) := by decide +kernel
theorem d_Law_law_203 : decode c_Law_law 203 = .ok (.iadd, 1) := by decide +kernel
theorem d_Law_law_204 : decode c_Law_law 204 = .ok (.iaload, 1) := by decide +kernel
theorem d_Law_law_205 : decode c_Law_law 205 = .ok (.ifCond .eq 7, 3) := by decide +kernel
theorem d_Law_law_208 : decode c_Law_law 208 = .ok (.iconst 1, 1) := by decide +kernel
theorem d_Law_law_209 : decode c_Law_law 209 = .ok (.goto 4, 3) := by decide +kernel
theorem d_Law_law_212 : decode c_Law_law 212 = .ok (.iconst 0, 1) := by decide +kernel
theorem d_Law_law_213 : decode c_Law_law 213 = .ok (.aload_n 3, 1) := by decide +kernel
theorem d_Law_law_214 : decode c_Law_law 214 = .ok (.invokestatic 48, 3) := by decide +kernel
theorem d_Law_law_217 : decode c_Law_law 217 = .ok (.istore 5, 2) := by decide +kernel
theorem d_Law_law_219 : decode c_Law_law 219 = .ok (.aload_n 2, 1) := by decide +kernel
theorem d_Law_law_220 : decode c_Law_law 220 = .ok (.aload_n 0, 1) := by decide +kernel
theorem d_Law_law_221 : decode c_Law_law 221 = .ok (.iload 4, 2) := by decide +kernel
theorem d_Law_law_223 : decode c_Law_law 223 = .ok (.iconst 1, 1) := by decide +kernel
theorem d_Law_law_224 : decode c_Law_law 224 = .ok (.iadd, 1) := by decide +kernel
theorem d_Law_law_225 : decode c_Law_law 225 = .ok (.iaload, 1) := by decide +kernel
theorem d_Law_law_226 : decode c_Law_law 226 = .ok (.ifCond .eq 7, 3) := by decide +kernel
theorem d_Law_law_229 : decode c_Law_law 229 = .ok (.iconst 1, 1) := by decide +kernel
theorem d_Law_law_230 : decode c_Law_law 230 = .ok (.goto 4, 3) := by decide +kernel
theorem d_Law_law_233 : decode c_Law_law 233 = .ok (.iconst 0, 1) := by decide +kernel
theorem d_Law_law_234 : decode c_Law_law 234 = .ok (.aload_n 0, 1) := by decide +kernel
theorem d_Law_law_235 : decode c_Law_law 235 = .ok (.iload 4, 2) := by decide +kernel
theorem d_Law_law_237 : decode c_Law_law 237 = .ok (.iconst 2, 1) := by decide +kernel
theorem d_Law_law_238 : decode c_Law_law 238 = .ok (.iadd, 1) := by decide +kernel
theorem d_Law_law_239 : decode c_Law_law 239 = .ok (.iaload, 1) := by decide +kernel
theorem d_Law_law_240 : decode c_Law_law 240 = .ok (.ifCond .eq 7, 3) := by decide +kernel
theorem d_Law_law_243 : decode c_Law_law 243 = .ok (.iconst 1, 1) := by decide +kernel
theorem d_Law_law_244 : decode c_Law_law 244 = .ok (.goto 4, 3) := by decide +kernel
theorem d_Law_law_247 : decode c_Law_law 247 = .ok (.iconst 0, 1) := by decide +kernel
theorem d_Law_law_248 : decode c_Law_law 248 = .ok (.invokevirtual 51, 3) := by decide +kernel
theorem d_Law_law_251 : decode c_Law_law 251 = .ok (.istore 6, 2) := by decide +kernel
theorem d_Law_law_253 : decode c_Law_law 253 = .ok (.aload_n 2, 1) := by decide +kernel
theorem d_Law_law_254 : decode c_Law_law 254 = .ok (.invokevirtual 44, 3) := by decide +kernel
theorem d_Law_law_257 : decode c_Law_law 257 = .ok (.iload 5, 2) := by decide +kernel
theorem d_Law_law_259 : decode c_Law_law 259 = .ok (.if_icmp .eq 5, 3) := by decide +kernel
theorem d_Law_law_262 : decode c_Law_law 262 = .ok (.iconst 0, 1) := by decide +kernel
theorem d_Law_law_263 : decode c_Law_law 263 = .ok (.ireturn, 1) := by decide +kernel
theorem d_Law_law_264 : decode c_Law_law 264 = .ok (.iload 5, 2) := by decide +kernel
theorem d_Law_law_266 : decode c_Law_law 266 = .ok (.ifCond .ne 15, 3) := by decide +kernel
theorem d_Law_law_269 : decode c_Law_law 269 = .ok (.aload_n 3, 1) := by decide +kernel
theorem d_Law_law_270 : decode c_Law_law 270 = .ok (.iconst 0, 1) := by decide +kernel
theorem d_Law_law_271 : decode c_Law_law 271 = .ok (.laload, 1) := by decide +kernel
theorem d_Law_law_272 : decode c_Law_law 272 = .ok (.iload 6, 2) := by decide +kernel
theorem d_Law_law_274 : decode c_Law_law 274 = .ok (.i2l, 1) := by decide +kernel
theorem d_Law_law_275 : decode c_Law_law 275 = .ok (.lcmp, 1) := by decide +kernel
theorem d_Law_law_276 : decode c_Law_law 276 = .ok (.ifCond .eq 5, 3) := by decide +kernel
theorem d_Law_law_279 : decode c_Law_law 279 = .ok (.iconst 0, 1) := by decide +kernel
theorem d_Law_law_280 : decode c_Law_law 280 = .ok (.ireturn, 1) := by decide +kernel
theorem d_Law_law_281 : decode c_Law_law 281 = .ok (.goto 262, 3) := by decide +kernel
theorem d_Law_law_284 : decode c_Law_law 284 = .ok (.aload_n 1, 1) := by decide +kernel
theorem d_Law_law_285 : decode c_Law_law 285 = .ok (.invokevirtual 52, 3) := by decide +kernel
theorem d_Law_law_288 : decode c_Law_law 288 = .ok (.aload_n 2, 1) := by decide +kernel
theorem d_Law_law_289 : decode c_Law_law 289 = .ok (.invokevirtual 55, 3) := by decide +kernel
theorem d_Law_law_292 : decode c_Law_law 292 = .ok (.if_icmp .eq 251, 3) := by decide +kernel
theorem d_Law_law_295 : decode c_Law_law 295 = .ok (.iconst 0, 1) := by decide +kernel
theorem d_Law_law_296 : decode c_Law_law 296 = .ok (.ireturn, 1) := by decide +kernel
theorem d_Law_law_297 : decode c_Law_law 297 = .ok (.aload_n 1, 1) := by decide +kernel
theorem d_Law_law_298 : decode c_Law_law 298 = .ok (.invokevirtual 56, 3) := by decide +kernel
theorem d_Law_law_301 : decode c_Law_law 301 = .ok (.aload_n 2, 1) := by decide +kernel
theorem d_Law_law_302 : decode c_Law_law 302 = .ok (.invokevirtual 59, 3) := by decide +kernel
theorem d_Law_law_305 : decode c_Law_law 305 = .ok (.if_icmp .eq 238, 3) := by decide +kernel
theorem d_Law_law_308 : decode c_Law_law 308 = .ok (.iconst 0, 1) := by decide +kernel
theorem d_Law_law_309 : decode c_Law_law 309 = .ok (.ireturn, 1) := by decide +kernel
theorem d_Law_law_310 : decode c_Law_law 310 = .ok (.aload_n 1, 1) := by decide +kernel
theorem d_Law_law_311 : decode c_Law_law 311 = .ok (.aload_n 0, 1) := by decide +kernel
theorem d_Law_law_312 : decode c_Law_law 312 = .ok (.iload 4, 2) := by decide +kernel
theorem d_Law_law_314 : decode c_Law_law 314 = .ok (.iconst 1, 1) := by decide +kernel
theorem d_Law_law_315 : decode c_Law_law 315 = .ok (.iadd, 1) := by decide +kernel
theorem d_Law_law_316 : decode c_Law_law 316 = .ok (.iaload, 1) := by decide +kernel
theorem d_Law_law_317 : decode c_Law_law 317 = .ok (.aload_n 0, 1) := by decide +kernel
theorem d_Law_law_318 : decode c_Law_law 318 = .ok (.iload 4, 2) := by decide +kernel
theorem d_Law_law_320 : decode c_Law_law 320 = .ok (.iconst 2, 1) := by decide +kernel
theorem d_Law_law_321 : decode c_Law_law 321 = .ok (.iadd, 1) := by decide +kernel
theorem d_Law_law_322 : decode c_Law_law 322 = .ok (.iaload, 1) := by decide +kernel
theorem d_Law_law_323 : decode c_Law_law 323 = .ok (.aload_n 3, 1) := by decide +kernel
theorem d_Law_law_324 : decode c_Law_law 324 = .ok (.invokestatic 60, 3) := by decide +kernel
theorem d_Law_law_327 : decode c_Law_law 327 = .ok (.istore 5, 2) := by decide +kernel
theorem d_Law_law_329 : decode c_Law_law 329 = .ok (.aload_n 2, 1) := by decide +kernel
theorem d_Law_law_330 : decode c_Law_law 330 = .ok (.aload_n 0, 1) := by decide +kernel
theorem d_Law_law_331 : decode c_Law_law 331 = .ok (.iload 4, 2) := by decide +kernel
theorem d_Law_law_333 : decode c_Law_law 333 = .ok (.iconst 1, 1) := by decide +kernel
theorem d_Law_law_334 : decode c_Law_law 334 = .ok (.iadd, 1) := by decide +kernel
theorem d_Law_law_335 : decode c_Law_law 335 = .ok (.iaload, 1) := by decide +kernel
theorem d_Law_law_336 : decode c_Law_law 336 = .ok (.aload_n 0, 1) := by decide +kernel
theorem d_Law_law_337 : decode c_Law_law 337 = .ok (.iload 4, 2) := by decide +kernel
theorem d_Law_law_339 : decode c_Law_law 339 = .ok (.iconst 2, 1) := by decide +kernel
theorem d_Law_law_340 : decode c_Law_law 340 = .ok (.iadd, 1) := by decide +kernel
theorem d_Law_law_341 : decode c_Law_law 341 = .ok (.iaload, 1) := by decide +kernel
theorem d_Law_law_342 : decode c_Law_law 342 = .ok (.invokevirtual 63, 3) := by decide +kernel
theorem d_Law_law_345 : decode c_Law_law 345 = .ok (.istore 6, 2) := by decide +kernel
theorem d_Law_law_347 : decode c_Law_law 347 = .ok (.aload_n 2, 1) := by decide +kernel
theorem d_Law_law_348 : decode c_Law_law 348 = .ok (.invokevirtual 44, 3) := by decide +kernel
theorem d_Law_law_351 : decode c_Law_law 351 = .ok (.iload 5, 2) := by decide +kernel
theorem d_Law_law_353 : decode c_Law_law 353 = .ok (.if_icmp .eq 5, 3) := by decide +kernel
theorem d_Law_law_356 : decode c_Law_law 356 = .ok (.iconst 0, 1) := by decide +kernel
theorem d_Law_law_357 : decode c_Law_law 357 = .ok (.ireturn, 1) := by decide +kernel
theorem d_Law_law_358 : decode c_Law_law 358 = .ok (.iload 5, 2) := by decide +kernel
theorem d_Law_law_360 : decode c_Law_law 360 = .ok (.ifCond .ne 15, 3) := by decide +kernel
theorem d_Law_law_363 : decode c_Law_law 363 = .ok (.aload_n 3, 1) := by decide +kernel
theorem d_Law_law_364 : decode c_Law_law 364 = .ok (.iconst 0, 1) := by decide +kernel
theorem d_Law_law_365 : decode c_Law_law 365 = .ok (.laload, 1) := by decide +kernel
theorem d_Law_law_366 : decode c_Law_law 366 = .ok (.iload 6, 2) := by decide +kernel
theorem d_Law_law_368 : decode c_Law_law 368 = .ok (.i2l, 1) := by decide +kernel
theorem d_Law_law_369 : decode c_Law_law 369 = .ok (.lcmp, 1) := by decide +kernel
theorem d_Law_law_370 : decode c_Law_law 370 = .ok (.ifCond .eq 5, 3) := by decide +kernel
theorem d_Law_law_373 : decode c_Law_law 373 = .ok (.iconst 0, 1) := by decide +kernel
theorem d_Law_law_374 : decode c_Law_law 374 = .ok (.ireturn, 1) := by decide +kernel
theorem d_Law_law_375 : decode c_Law_law 375 = .ok (.goto 168, 3) := by decide +kernel
theorem d_Law_law_378 : decode c_Law_law 378 = .ok (.aload_n 1, 1) := by decide +kernel
theorem d_Law_law_379 : decode c_Law_law 379 = .ok (.aload_n 0, 1) := by decide +kernel
theorem d_Law_law_380 : decode c_Law_law 380 = .ok (.iload 4, 2) := by decide +kernel
theorem d_Law_law_382 : decode c_Law_law 382 = .ok (.iconst 1, 1) := by decide +kernel
theorem d_Law_law_383 : decode c_Law_law 383 = .ok (.iadd, 1) := by decide +kernel
theorem d_Law_law_384 : decode c_Law_law 384 = .ok (.iaload, 1) := by decide +kernel
theorem d_Law_law_385 : decode c_Law_law 385 = .ok (.aload_n 0, 1) := by decide +kernel
theorem d_Law_law_386 : decode c_Law_law 386 = .ok (.iload 4, 2) := by decide +kernel
theorem d_Law_law_388 : decode c_Law_law 388 = .ok (.iconst 2, 1) := by decide +kernel
theorem d_Law_law_389 : decode c_Law_law 389 = .ok (.iadd, 1) := by decide +kernel
theorem d_Law_law_390 : decode c_Law_law 390 = .ok (.iaload, 1) := by decide +kernel
theorem d_Law_law_391 : decode c_Law_law 391 = .ok (.aload_n 3, 1) := by decide +kernel
theorem d_Law_law_392 : decode c_Law_law 392 = .ok (.invokestatic 64, 3) := by decide +kernel
theorem d_Law_law_395 : decode c_Law_law 395 = .ok (.istore 5, 2) := by decide +kernel
theorem d_Law_law_397 : decode c_Law_law 397 = .ok (.aload_n 2, 1) := by decide +kernel
theorem d_Law_law_398 : decode c_Law_law 398 = .ok (.aload_n 0, 1) := by decide +kernel
theorem d_Law_law_399 : decode c_Law_law 399 = .ok (.iload 4, 2) := by decide +kernel
theorem d_Law_law_401 : decode c_Law_law 401 = .ok (.iconst 1, 1) := by decide +kernel
theorem d_Law_law_402 : decode c_Law_law 402 = .ok (.iadd, 1) := by decide +kernel
theorem d_Law_law_403 : decode c_Law_law 403 = .ok (.iaload, 1) := by decide +kernel
theorem d_Law_law_404 : decode c_Law_law 404 = .ok (.aload_n 0, 1) := by decide +kernel
theorem d_Law_law_405 : decode c_Law_law 405 = .ok (.iload 4, 2) := by decide +kernel
theorem d_Law_law_407 : decode c_Law_law 407 = .ok (.iconst 2, 1) := by decide +kernel
theorem d_Law_law_408 : decode c_Law_law 408 = .ok (.iadd, 1) := by decide +kernel
theorem d_Law_law_409 : decode c_Law_law 409 = .ok (.iaload, 1) := by decide +kernel
theorem d_Law_law_410 : decode c_Law_law 410 = .ok (.invokevirtual 66, 3) := by decide +kernel
theorem d_Law_law_413 : decode c_Law_law 413 = .ok (.istore 6, 2) := by decide +kernel
theorem d_Law_law_415 : decode c_Law_law 415 = .ok (.aload_n 2, 1) := by decide +kernel
theorem d_Law_law_416 : decode c_Law_law 416 = .ok (.invokevirtual 44, 3) := by decide +kernel
theorem d_Law_law_419 : decode c_Law_law 419 = .ok (.iload 5, 2) := by decide +kernel
theorem d_Law_law_421 : decode c_Law_law 421 = .ok (.if_icmp .eq 5, 3) := by decide +kernel
theorem d_Law_law_424 : decode c_Law_law 424 = .ok (.iconst 0, 1) := by decide +kernel
theorem d_Law_law_425 : decode c_Law_law 425 = .ok (.ireturn, 1) := by decide +kernel
theorem d_Law_law_426 : decode c_Law_law 426 = .ok (.iload 5, 2) := by decide +kernel
theorem d_Law_law_428 : decode c_Law_law 428 = .ok (.ifCond .ne 15, 3) := by decide +kernel
theorem d_Law_law_431 : decode c_Law_law 431 = .ok (.aload_n 3, 1) := by decide +kernel
theorem d_Law_law_432 : decode c_Law_law 432 = .ok (.iconst 0, 1) := by decide +kernel
theorem d_Law_law_433 : decode c_Law_law 433 = .ok (.laload, 1) := by decide +kernel
theorem d_Law_law_434 : decode c_Law_law 434 = .ok (.iload 6, 2) := by decide +kernel
theorem d_Law_law_436 : decode c_Law_law 436 = .ok (.i2l, 1) := by decide +kernel
theorem d_Law_law_437 : decode c_Law_law 437 = .ok (.lcmp, 1) := by decide +kernel
theorem d_Law_law_438 : decode c_Law_law 438 = .ok (.ifCond .eq 5, 3) := by decide +kernel
theorem d_Law_law_441 : decode c_Law_law 441 = .ok (.iconst 0, 1) := by decide +kernel
theorem d_Law_law_442 : decode c_Law_law 442 = .ok (.ireturn, 1) := by decide +kernel
theorem d_Law_law_443 : decode c_Law_law 443 = .ok (.goto 100, 3) := by decide +kernel
theorem d_Law_law_446 : decode c_Law_law 446 = .ok (.aload_n 1, 1) := by decide +kernel
theorem d_Law_law_447 : decode c_Law_law 447 = .ok (.aload_n 0, 1) := by decide +kernel
theorem d_Law_law_448 : decode c_Law_law 448 = .ok (.iload 4, 2) := by decide +kernel
theorem d_Law_law_450 : decode c_Law_law 450 = .ok (.iconst 1, 1) := by decide +kernel
theorem d_Law_law_451 : decode c_Law_law 451 = .ok (.iadd, 1) := by decide +kernel
theorem d_Law_law_452 : decode c_Law_law 452 = .ok (.iaload, 1) := by decide +kernel
theorem d_Law_law_453 : decode c_Law_law 453 = .ok (.aload_n 0, 1) := by decide +kernel
theorem d_Law_law_454 : decode c_Law_law 454 = .ok (.iload 4, 2) := by decide +kernel
theorem d_Law_law_456 : decode c_Law_law 456 = .ok (.iconst 2, 1) := by decide +kernel
theorem d_Law_law_457 : decode c_Law_law 457 = .ok (.iadd, 1) := by decide +kernel
theorem d_Law_law_458 : decode c_Law_law 458 = .ok (.iaload, 1) := by decide +kernel
theorem d_Law_law_459 : decode c_Law_law 459 = .ok (.ifCond .eq 7, 3) := by decide +kernel
theorem d_Law_law_462 : decode c_Law_law 462 = .ok (.iconst 1, 1) := by decide +kernel
theorem d_Law_law_463 : decode c_Law_law 463 = .ok (.goto 4, 3) := by decide +kernel
theorem d_Law_law_466 : decode c_Law_law 466 = .ok (.iconst 0, 1) := by decide +kernel
theorem d_Law_law_467 : decode c_Law_law 467 = .ok (.aload_n 3, 1) := by decide +kernel
theorem d_Law_law_468 : decode c_Law_law 468 = .ok (.invokestatic 67, 3) := by decide +kernel
theorem d_Law_law_471 : decode c_Law_law 471 = .ok (.istore 5, 2) := by decide +kernel
theorem d_Law_law_473 : decode c_Law_law 473 = .ok (.aload_n 2, 1) := by decide +kernel
theorem d_Law_law_474 : decode c_Law_law 474 = .ok (.aload_n 0, 1) := by decide +kernel
theorem d_Law_law_475 : decode c_Law_law 475 = .ok (.iload 4, 2) := by decide +kernel
theorem d_Law_law_477 : decode c_Law_law 477 = .ok (.iconst 1, 1) := by decide +kernel
theorem d_Law_law_478 : decode c_Law_law 478 = .ok (.iadd, 1) := by decide +kernel
theorem d_Law_law_479 : decode c_Law_law 479 = .ok (.iaload, 1) := by decide +kernel
theorem d_Law_law_480 : decode c_Law_law 480 = .ok (.aload_n 0, 1) := by decide +kernel
theorem d_Law_law_481 : decode c_Law_law 481 = .ok (.iload 4, 2) := by decide +kernel
theorem d_Law_law_483 : decode c_Law_law 483 = .ok (.iconst 2, 1) := by decide +kernel
theorem d_Law_law_484 : decode c_Law_law 484 = .ok (.iadd, 1) := by decide +kernel
theorem d_Law_law_485 : decode c_Law_law 485 = .ok (.iaload, 1) := by decide +kernel
theorem d_Law_law_486 : decode c_Law_law 486 = .ok (.ifCond .eq 7, 3) := by decide +kernel
theorem d_Law_law_489 : decode c_Law_law 489 = .ok (.iconst 1, 1) := by decide +kernel
theorem d_Law_law_490 : decode c_Law_law 490 = .ok (.goto 4, 3) := by decide +kernel
theorem d_Law_law_493 : decode c_Law_law 493 = .ok (.iconst 0, 1) := by decide +kernel
theorem d_Law_law_494 : decode c_Law_law 494 = .ok (.invokevirtual 70, 3) := by decide +kernel
theorem d_Law_law_497 : decode c_Law_law 497 = .ok (.istore 6, 2) := by decide +kernel
theorem d_Law_law_499 : decode c_Law_law 499 = .ok (.aload_n 2, 1) := by decide +kernel
theorem d_Law_law_500 : decode c_Law_law 500 = .ok (.invokevirtual 44, 3) := by decide +kernel
theorem d_Law_law_503 : decode c_Law_law 503 = .ok (.iload 5, 2) := by decide +kernel
theorem d_Law_law_505 : decode c_Law_law 505 = .ok (.if_icmp .eq 5, 3) := by decide +kernel
theorem d_Law_law_508 : decode c_Law_law 508 = .ok (.iconst 0, 1) := by decide +kernel
theorem d_Law_law_509 : decode c_Law_law 509 = .ok (.ireturn, 1) := by decide +kernel
theorem d_Law_law_510 : decode c_Law_law 510 = .ok (.iload 5, 2) := by decide +kernel
theorem d_Law_law_512 : decode c_Law_law 512 = .ok (.ifCond .ne 15, 3) := by decide +kernel
theorem d_Law_law_515 : decode c_Law_law 515 = .ok (.aload_n 3, 1) := by decide +kernel
theorem d_Law_law_516 : decode c_Law_law 516 = .ok (.iconst 0, 1) := by decide +kernel
theorem d_Law_law_517 : decode c_Law_law 517 = .ok (.laload, 1) := by decide +kernel
theorem d_Law_law_518 : decode c_Law_law 518 = .ok (.iload 6, 2) := by decide +kernel
theorem d_Law_law_520 : decode c_Law_law 520 = .ok (.i2l, 1) := by decide +kernel
theorem d_Law_law_521 : decode c_Law_law 521 = .ok (.lcmp, 1) := by decide +kernel
theorem d_Law_law_522 : decode c_Law_law 522 = .ok (.ifCond .eq 5, 3) := by decide +kernel
theorem d_Law_law_525 : decode c_Law_law 525 = .ok (.iconst 0, 1) := by decide +kernel
theorem d_Law_law_526 : decode c_Law_law 526 = .ok (.ireturn, 1) := by decide +kernel
theorem d_Law_law_527 : decode c_Law_law 527 = .ok (.goto 16, 3) := by decide +kernel
theorem d_Law_law_530 : decode c_Law_law 530 = .ok (.aload_n 1, 1) := by decide +kernel
theorem d_Law_law_531 : decode c_Law_law 531 = .ok (.invokevirtual 71, 3) := by decide +kernel
theorem d_Law_law_534 : decode c_Law_law 534 = .ok (.aload_n 2, 1) := by decide +kernel
theorem d_Law_law_535 : decode c_Law_law 535 = .ok (.invokevirtual 74, 3) := by decide +kernel
theorem d_Law_law_538 : decode c_Law_law 538 = .ok (.if_icmp .eq 5, 3) := by decide +kernel
theorem d_Law_law_541 : decode c_Law_law 541 = .ok (.iconst 0, 1) := by decide +kernel
theorem d_Law_law_542 : decode c_Law_law 542 = .ok (.ireturn, 1) := by decide +kernel
theorem d_Law_law_543 : decode c_Law_law 543 = .ok (.iinc 4 4, 3) := by decide +kernel
theorem d_Law_law_546 : decode c_Law_law 546 = .ok (.goto (-523), 3) := by decide +kernel
theorem d_Law_law_549 : decode c_Law_law 549 = .ok (.iconst 1, 1) := by decide +kernel
theorem d_Law_law_550 : decode c_Law_law 550 = .ok (.ireturn, 1) := by decide +kernel
theorem law_c0 {X : g_L} {cs : Nat × Nat} {b L : Nat} {xs : Nat → Int32} {ao aa bo ba : Nat → Nat} {qo : Nat} (hC : gCL X c_Law_law R_Law 13 500 7 ret) (hX : va_X b L xs X.1.2.2.2.2.1 X.1.2.2.2.2.1.heap) (hbl : b < X.1.2.2.2.2.1.heap.size) (hbA : ¬ X.2.2.2.2.1 b) (hst : g_St X.2.2.2.2.1 X.1.2.2.2.2.1 X.1.2.2.2.2.1.heap) (hnc : va_Nc g_ISE g_IAE X.1.2.2.2.2.1) (hfl : X.1.2.1.flags = flags0) (i : Int32) (A1 : Int64) (A2 : Int32) (hA1 : (xs (i + 1).toNatClampNeg).toInt64 <<< ((32 : Int32).toInt64 &&& 63) ||| (xs (i + 2).toNatClampNeg).toInt64 &&& 4294967295 = A1) (hA2 : (xs (i + 3).toNatClampNeg) = A2) (hi3 : vp_in (i + 3) L) (hi1 : vp_in (i + 1) L) (hi2 : vp_in (i + 2) L) (σ μ : g_S) (f : Nat → Int64) (N : Nat) (r : g_R) (σ' : g_S) (M : Nat) (v : Int32) (μ' : g_S) (h1 : Desk_put N (A1) (A2) σ = some (r, σ')) (h2 : Mod_put M (A1) (A2) μ = some (v, μ')) (ha : g_Ans r v (μ'.1 0)) (hf : cs.1 + 1 ≤ X.1.2.2.2.1.cells ∧ cs.2 + 6 ≤ X.1.2.2.2.1.slots) (k : gl X (cs.1 + 1, cs.2 + 6) (lw_w ao aa bo ba qo X.2.2.1 X.2.2.2.1 σ' μ' (g_hf r f)) (lw_l b ao bo qo i) 543 []) : gl X cs (lw_w ao aa bo ba qo X.2.2.1 X.2.2.2.1 σ μ f) (lw_l b ao bo qo i) 84 [] := by
  refine gl_aload_n hC 2 d_Law_law_84 rfl rfl ?_
  refine gl_aload_n hC 1 d_Law_law_85 rfl rfl ?_
  refine gl_iload hC 0 d_Law_law_86 rfl ?_
  refine gl_iconst hC 1 d_Law_law_88 (by decide) ?_
  refine gl_iadd hC d_Law_law_89 ?_
  refine gl_sld hC hX hbl hbA hi1 d_Law_law_90 ?_
  refine gl_i2l hC d_Law_law_91 ?_
  refine gl_bipush hC 32 d_Law_law_92 (by decide) ?_
  refine gl_lshl hC d_Law_law_94 ?_
  refine gl_aload_n hC 1 d_Law_law_95 rfl rfl ?_
  refine gl_iload hC 0 d_Law_law_96 rfl ?_
  refine gl_iconst hC 2 d_Law_law_98 (by decide) ?_
  refine gl_iadd hC d_Law_law_99 ?_
  refine gl_sld hC hX hbl hbA hi2 d_Law_law_100 ?_
  refine gl_i2l hC d_Law_law_101 ?_
  refine gl_ldc2 hC 4294967295 kn_Law_36 d_Law_law_102 ?_
  refine gl_land hC d_Law_law_105 ?_
  refine gl_lor hC d_Law_law_106 ?_
  refine gl_aload_n hC 1 d_Law_law_107 rfl rfl ?_
  refine gl_iload hC 0 d_Law_law_108 rfl ?_
  refine gl_iconst hC 3 d_Law_law_110 (by decide) ?_
  refine gl_iadd hC d_Law_law_111 ?_
  refine gl_sld hC hX hbl hbA hi3 d_Law_law_112 ?_
  rw [hA1, hA2]
  refine gl_aload_n hC 4 d_Law_law_113 rfl rfl ?_
  refine gl_callH hC hst hnc [.ref (ao 0), .long A1, .int A2, .ref qo] [] ((H_put _ hfl _ _ _ ao aa qo N (A1) (A2) σ r σ' f h1).frame _) kh_Law_38 ⟨by decide, by decide⟩ hf (Nat.le_of_ble_eq_true rfl) [.ref qo, .int A2, .long A1, .ref (ao 0)] rfl d_Law_law_114 ?_
  refine gl_istore hC [(5, .int (g_hk r)), (4, .int i), (0, .ref b), (1, .ref (ao 0)), (2, .ref (bo 0)), (3, .ref qo)] d_Law_law_117 (by decide) rfl ?_
  refine gl_aload_n hC 4 d_Law_law_119 rfl rfl ?_
  refine gl_aload_n hC 2 d_Law_law_120 rfl rfl ?_
  refine gl_iload hC 1 d_Law_law_121 rfl ?_
  refine gl_iconst hC 1 d_Law_law_123 (by decide) ?_
  refine gl_iadd hC d_Law_law_124 ?_
  refine gl_sld hC hX hbl hbA hi1 d_Law_law_125 ?_
  refine gl_i2l hC d_Law_law_126 ?_
  refine gl_bipush hC 32 d_Law_law_127 (by decide) ?_
  refine gl_lshl hC d_Law_law_129 ?_
  refine gl_aload_n hC 2 d_Law_law_130 rfl rfl ?_
  refine gl_iload hC 1 d_Law_law_131 rfl ?_
  refine gl_iconst hC 2 d_Law_law_133 (by decide) ?_
  refine gl_iadd hC d_Law_law_134 ?_
  refine gl_sld hC hX hbl hbA hi2 d_Law_law_135 ?_
  refine gl_i2l hC d_Law_law_136 ?_
  refine gl_ldc2 hC 4294967295 kn_Law_36 d_Law_law_137 ?_
  refine gl_land hC d_Law_law_140 ?_
  refine gl_lor hC d_Law_law_141 ?_
  refine gl_aload_n hC 2 d_Law_law_142 rfl rfl ?_
  refine gl_iload hC 1 d_Law_law_143 rfl ?_
  refine gl_iconst hC 3 d_Law_law_145 (by decide) ?_
  refine gl_iadd hC d_Law_law_146 ?_
  refine gl_sld hC hX hbl hbA hi3 d_Law_law_147 ?_
  rw [hA1, hA2]
  refine gl_swap ?_
  refine gl_callV hC [.long A1, .int A2] [] ((Mod_put_m _ _ _ bo ba M (A1) (A2) μ v μ' h2).frame _) kc_Law_43 0 (g_lay_objE rfl) rfl rfl ⟨by decide, by decide⟩ ⟨Nat.le_trans (Nat.le_refl _) hf.1, Nat.le_trans (Nat.le_refl _) hf.2⟩ (Nat.le_of_ble_eq_true rfl) [.int A2, .long A1, .ref (bo 0)] [.int v] rfl rfl d_Law_law_148 ?_
  refine gl_istore hC [(6, .int v), (5, .int (g_hk r)), (4, .int i), (0, .ref b), (1, .ref (ao 0)), (2, .ref (bo 0)), (3, .ref qo)] d_Law_law_151 (by decide) rfl ?_
  refine gl_aload_n hC 5 d_Law_law_153 rfl rfl ?_
  refine gl_callV hC [] [] ((Mod_thrown_m _ _ _ bo ba 0 μ' (μ'.1 0) μ' rfl).frame _) kc_Law_44 0 (g_lay_objE rfl) rfl rfl ⟨by decide, by decide⟩ ⟨Nat.le_trans (Nat.le_refl _) hf.1, Nat.le_trans (Nat.le_refl _) hf.2⟩ (Nat.le_of_ble_eq_true rfl) [.ref (bo 0)] [.int (μ'.1 0)] rfl rfl d_Law_law_154 ?_
  refine gl_iload hC 1 d_Law_law_157 rfl ?_
  refine gl_icmp_eq hC 164 d_Law_law_159 (by decide) (fun _ => ?_) (fun hne => absurd ha.1 hne)
  refine gl_swap ?_
  refine gl_iload hC 1 d_Law_law_164 rfl ?_
  cases r with
  | inr bb =>
    refine gl_if_ne hC 181 d_Law_law_166 (by decide) (fun _ => ?_) (fun hz => absurd hz (by cases bb <;> decide))
    refine gl_goto hC 543 d_Law_law_181 (by decide) ?_
    exact gl_lv [2, 3, 4, 5, 6] rfl k
  | inl w =>
    obtain rfl := ha.2 w rfl
    refine gl_if_ne hC 181 d_Law_law_166 (by decide) (fun hz => absurd rfl hz) (fun _ => ?_)
    refine gl_aload_n hC 6 d_Law_law_169 rfl rfl ?_
    refine gl_iconst hC 0 d_Law_law_170 (by decide) ?_
    refine gl_lald hC 29 (g_outAtE (g_lay_len LC_n)) g_in0 d_Law_law_171 ?_
    refine gl_iload hC 0 d_Law_law_172 rfl ?_
    refine gl_i2l hC d_Law_law_174 ?_
    refine gl_lcmp hC d_Law_law_175 ?_
    rw [law_upd, law_cmp]
    refine gl_if_eq hC 181 d_Law_law_176 (by decide) (fun _ => ?_) (fun hz => absurd rfl hz)
    refine gl_goto hC 543 d_Law_law_181 (by decide) ?_
    exact gl_lv [2, 3, 4, 5, 6] rfl k
theorem law_c1 {X : g_L} {cs : Nat × Nat} {b L : Nat} {xs : Nat → Int32} {ao aa bo ba : Nat → Nat} {qo : Nat} (hC : gCL X c_Law_law R_Law 13 500 7 ret) (hX : va_X b L xs X.1.2.2.2.2.1 X.1.2.2.2.2.1.heap) (hbl : b < X.1.2.2.2.2.1.heap.size) (hbA : ¬ X.2.2.2.2.1 b) (hst : g_St X.2.2.2.2.1 X.1.2.2.2.2.1 X.1.2.2.2.2.1.heap) (hnc : va_Nc g_ISE g_IAE X.1.2.2.2.2.1) (hfl : X.1.2.1.flags = flags0) (i : Int32) (hi1 : vp_in (i + 1) L) (hi2 : vp_in (i + 2) L) (σ μ : g_S) (f : Nat → Int64) (N : Nat) (r : g_R) (σ' : g_S) (M : Nat) (v : Int32) (μ' : g_S) (h1 : Desk_pattern N ((g_bo (xs (i + 1).toNatClampNeg))) ((g_bo (xs (i + 2).toNatClampNeg))) σ = some (r, σ')) (h2 : Mod_pattern M ((g_bo (xs (i + 1).toNatClampNeg))) ((g_bo (xs (i + 2).toNatClampNeg))) μ = some (v, μ')) (ha : g_Ans r v (μ'.1 0)) (hnt : r ≠ .inr true) (hf : cs.1 + 1 ≤ X.1.2.2.2.1.cells ∧ cs.2 + 6 ≤ X.1.2.2.2.1.slots) (k : gl X (cs.1 + 1, cs.2 + 6) (lw_w ao aa bo ba qo X.2.2.1 X.2.2.2.1 σ' μ' (g_hf r f)) (lw_l b ao bo qo i) 543 []) : gl X cs (lw_w ao aa bo ba qo X.2.2.1 X.2.2.2.1 σ μ f) (lw_l b ao bo qo i) 184 [] := by
  refine gl_aload_n hC 2 d_Law_law_184 rfl rfl ?_
  refine gl_aload_n hC 1 d_Law_law_185 rfl rfl ?_
  refine gl_iload hC 0 d_Law_law_186 rfl ?_
  refine gl_iconst hC 1 d_Law_law_188 (by decide) ?_
  refine gl_iadd hC d_Law_law_189 ?_
  refine gl_sld hC hX hbl hbA hi1 d_Law_law_190 ?_
  suffices k1 : gl X _ _ _ 199 (.int (g_bo (xs (i + 1).toNatClampNeg)) :: [.ref (ao 0)]) from gl_if_eq hC 198 d_Law_law_191 (by decide) (fun h => gl_iconst hC (g_bo _) d_Law_law_198 (by rw [g_bo, if_pos h]; rfl) k1) (fun h => gl_iconst hC (g_bo _) d_Law_law_194 (by rw [g_bo, if_neg h]; rfl) (gl_goto hC 199 d_Law_law_195 (by decide) k1))
  refine gl_aload_n hC 1 d_Law_law_199 rfl rfl ?_
  refine gl_iload hC 0 d_Law_law_200 rfl ?_
  refine gl_iconst hC 2 d_Law_law_202 (by decide) ?_
  refine gl_iadd hC d_Law_law_203 ?_
  refine gl_sld hC hX hbl hbA hi2 d_Law_law_204 ?_
  suffices k1 : gl X _ _ _ 213 (.int (g_bo (xs (i + 2).toNatClampNeg)) :: [.int (g_bo (xs (i + 1).toNatClampNeg)), .ref (ao 0)]) from gl_if_eq hC 212 d_Law_law_205 (by decide) (fun h => gl_iconst hC (g_bo _) d_Law_law_212 (by rw [g_bo, if_pos h]; rfl) k1) (fun h => gl_iconst hC (g_bo _) d_Law_law_208 (by rw [g_bo, if_neg h]; rfl) (gl_goto hC 213 d_Law_law_209 (by decide) k1))
  refine gl_aload_n hC 4 d_Law_law_213 rfl rfl ?_
  refine gl_callH hC hst hnc [.ref (ao 0), .int (g_bo (xs (i + 1).toNatClampNeg)), .int (g_bo (xs (i + 2).toNatClampNeg)), .ref qo] [] ((H_pattern _ hfl _ _ _ ao aa qo N ((g_bo (xs (i + 1).toNatClampNeg))) ((g_bo (xs (i + 2).toNatClampNeg))) σ r σ' f h1 hnt).frame _) kh_Law_48 ⟨by decide, by decide⟩ hf (Nat.le_of_ble_eq_true rfl) [.ref qo, .int (g_bo (xs (i + 2).toNatClampNeg)), .int (g_bo (xs (i + 1).toNatClampNeg)), .ref (ao 0)] rfl d_Law_law_214 ?_
  refine gl_istore hC [(5, .int (g_hk r)), (4, .int i), (0, .ref b), (1, .ref (ao 0)), (2, .ref (bo 0)), (3, .ref qo)] d_Law_law_217 (by decide) rfl ?_
  refine gl_aload_n hC 4 d_Law_law_219 rfl rfl ?_
  refine gl_aload_n hC 2 d_Law_law_220 rfl rfl ?_
  refine gl_iload hC 1 d_Law_law_221 rfl ?_
  refine gl_iconst hC 1 d_Law_law_223 (by decide) ?_
  refine gl_iadd hC d_Law_law_224 ?_
  refine gl_sld hC hX hbl hbA hi1 d_Law_law_225 ?_
  suffices k1 : gl X _ _ _ 234 (.int (g_bo (xs (i + 1).toNatClampNeg)) :: [.ref (bo 0)]) from gl_if_eq hC 233 d_Law_law_226 (by decide) (fun h => gl_iconst hC (g_bo _) d_Law_law_233 (by rw [g_bo, if_pos h]; rfl) k1) (fun h => gl_iconst hC (g_bo _) d_Law_law_229 (by rw [g_bo, if_neg h]; rfl) (gl_goto hC 234 d_Law_law_230 (by decide) k1))
  refine gl_aload_n hC 2 d_Law_law_234 rfl rfl ?_
  refine gl_iload hC 1 d_Law_law_235 rfl ?_
  refine gl_iconst hC 2 d_Law_law_237 (by decide) ?_
  refine gl_iadd hC d_Law_law_238 ?_
  refine gl_sld hC hX hbl hbA hi2 d_Law_law_239 ?_
  suffices k1 : gl X _ _ _ 248 (.int (g_bo (xs (i + 2).toNatClampNeg)) :: [.int (g_bo (xs (i + 1).toNatClampNeg)), .ref (bo 0)]) from gl_if_eq hC 247 d_Law_law_240 (by decide) (fun h => gl_iconst hC (g_bo _) d_Law_law_247 (by rw [g_bo, if_pos h]; rfl) k1) (fun h => gl_iconst hC (g_bo _) d_Law_law_243 (by rw [g_bo, if_neg h]; rfl) (gl_goto hC 248 d_Law_law_244 (by decide) k1))
  refine gl_swap ?_
  refine gl_callV hC [.int (g_bo (xs (i + 1).toNatClampNeg)), .int (g_bo (xs (i + 2).toNatClampNeg))] [] ((Mod_pattern_m _ _ _ bo ba M ((g_bo (xs (i + 1).toNatClampNeg))) ((g_bo (xs (i + 2).toNatClampNeg))) μ v μ' h2).frame _) kc_Law_51 0 (g_lay_objE rfl) rfl rfl ⟨by decide, by decide⟩ ⟨Nat.le_trans (Nat.le_refl _) hf.1, Nat.le_trans (Nat.le_refl _) hf.2⟩ (Nat.le_of_ble_eq_true rfl) [.int (g_bo (xs (i + 2).toNatClampNeg)), .int (g_bo (xs (i + 1).toNatClampNeg)), .ref (bo 0)] [.int v] rfl rfl d_Law_law_248 ?_
  refine gl_istore hC [(6, .int v), (5, .int (g_hk r)), (4, .int i), (0, .ref b), (1, .ref (ao 0)), (2, .ref (bo 0)), (3, .ref qo)] d_Law_law_251 (by decide) rfl ?_
  refine gl_aload_n hC 5 d_Law_law_253 rfl rfl ?_
  refine gl_callV hC [] [] ((Mod_thrown_m _ _ _ bo ba 0 μ' (μ'.1 0) μ' rfl).frame _) kc_Law_44 0 (g_lay_objE rfl) rfl rfl ⟨by decide, by decide⟩ ⟨Nat.le_trans (Nat.le_refl _) hf.1, Nat.le_trans (Nat.le_refl _) hf.2⟩ (Nat.le_of_ble_eq_true rfl) [.ref (bo 0)] [.int (μ'.1 0)] rfl rfl d_Law_law_254 ?_
  refine gl_iload hC 1 d_Law_law_257 rfl ?_
  refine gl_icmp_eq hC 264 d_Law_law_259 (by decide) (fun _ => ?_) (fun hne => absurd ha.1 hne)
  refine gl_swap ?_
  refine gl_iload hC 1 d_Law_law_264 rfl ?_
  cases r with
  | inr bb =>
    refine gl_if_ne hC 281 d_Law_law_266 (by decide) (fun _ => ?_) (fun hz => absurd hz (by cases bb <;> decide))
    refine gl_goto hC 543 d_Law_law_281 (by decide) ?_
    exact gl_lv [2, 3, 4, 5, 6] rfl k
  | inl w =>
    obtain rfl := ha.2 w rfl
    refine gl_if_ne hC 281 d_Law_law_266 (by decide) (fun hz => absurd rfl hz) (fun _ => ?_)
    refine gl_aload_n hC 6 d_Law_law_269 rfl rfl ?_
    refine gl_iconst hC 0 d_Law_law_270 (by decide) ?_
    refine gl_lald hC 29 (g_outAtE (g_lay_len LC_n)) g_in0 d_Law_law_271 ?_
    refine gl_iload hC 0 d_Law_law_272 rfl ?_
    refine gl_i2l hC d_Law_law_274 ?_
    refine gl_lcmp hC d_Law_law_275 ?_
    rw [law_upd, law_cmp]
    refine gl_if_eq hC 281 d_Law_law_276 (by decide) (fun _ => ?_) (fun hz => absurd rfl hz)
    refine gl_goto hC 543 d_Law_law_281 (by decide) ?_
    exact gl_lv [2, 3, 4, 5, 6] rfl k
theorem law_c4 {X : g_L} {cs : Nat × Nat} {b L : Nat} {xs : Nat → Int32} {ao aa bo ba : Nat → Nat} {qo : Nat} (hC : gCL X c_Law_law R_Law 13 500 7 ret) (hX : va_X b L xs X.1.2.2.2.2.1 X.1.2.2.2.2.1.heap) (hbl : b < X.1.2.2.2.2.1.heap.size) (hbA : ¬ X.2.2.2.2.1 b) (hst : g_St X.2.2.2.2.1 X.1.2.2.2.2.1 X.1.2.2.2.2.1.heap) (hnc : va_Nc g_ISE g_IAE X.1.2.2.2.2.1) (hfl : X.1.2.1.flags = flags0) (i : Int32) (hi1 : vp_in (i + 1) L) (hi2 : vp_in (i + 2) L) (σ μ : g_S) (f : Nat → Int64) (N : Nat) (r : g_R) (σ' : g_S) (M : Nat) (v : Int32) (μ' : g_S) (h1 : Desk_match N ((xs (i + 1).toNatClampNeg)) ((xs (i + 2).toNatClampNeg)) σ = some (r, σ')) (h2 : Mod_match M ((xs (i + 1).toNatClampNeg)) ((xs (i + 2).toNatClampNeg)) μ = some (v, μ')) (ha : g_Ans r v (μ'.1 0)) (hf : cs.1 + 1 ≤ X.1.2.2.2.1.cells ∧ cs.2 + 6 ≤ X.1.2.2.2.1.slots) (k : gl X (cs.1 + 1, cs.2 + 6) (lw_w ao aa bo ba qo X.2.2.1 X.2.2.2.1 σ' μ' (g_hf r f)) (lw_l b ao bo qo i) 543 []) : gl X cs (lw_w ao aa bo ba qo X.2.2.1 X.2.2.2.1 σ μ f) (lw_l b ao bo qo i) 310 [] := by
  refine gl_aload_n hC 2 d_Law_law_310 rfl rfl ?_
  refine gl_aload_n hC 1 d_Law_law_311 rfl rfl ?_
  refine gl_iload hC 0 d_Law_law_312 rfl ?_
  refine gl_iconst hC 1 d_Law_law_314 (by decide) ?_
  refine gl_iadd hC d_Law_law_315 ?_
  refine gl_sld hC hX hbl hbA hi1 d_Law_law_316 ?_
  refine gl_aload_n hC 1 d_Law_law_317 rfl rfl ?_
  refine gl_iload hC 0 d_Law_law_318 rfl ?_
  refine gl_iconst hC 2 d_Law_law_320 (by decide) ?_
  refine gl_iadd hC d_Law_law_321 ?_
  refine gl_sld hC hX hbl hbA hi2 d_Law_law_322 ?_
  refine gl_aload_n hC 4 d_Law_law_323 rfl rfl ?_
  refine gl_callH hC hst hnc [.ref (ao 0), .int (xs (i + 1).toNatClampNeg), .int (xs (i + 2).toNatClampNeg), .ref qo] [] ((H_match _ hfl _ _ _ ao aa qo N ((xs (i + 1).toNatClampNeg)) ((xs (i + 2).toNatClampNeg)) σ r σ' f h1).frame _) kh_Law_60 ⟨by decide, by decide⟩ hf (Nat.le_of_ble_eq_true rfl) [.ref qo, .int (xs (i + 2).toNatClampNeg), .int (xs (i + 1).toNatClampNeg), .ref (ao 0)] rfl d_Law_law_324 ?_
  refine gl_istore hC [(5, .int (g_hk r)), (4, .int i), (0, .ref b), (1, .ref (ao 0)), (2, .ref (bo 0)), (3, .ref qo)] d_Law_law_327 (by decide) rfl ?_
  refine gl_aload_n hC 4 d_Law_law_329 rfl rfl ?_
  refine gl_aload_n hC 2 d_Law_law_330 rfl rfl ?_
  refine gl_iload hC 1 d_Law_law_331 rfl ?_
  refine gl_iconst hC 1 d_Law_law_333 (by decide) ?_
  refine gl_iadd hC d_Law_law_334 ?_
  refine gl_sld hC hX hbl hbA hi1 d_Law_law_335 ?_
  refine gl_aload_n hC 2 d_Law_law_336 rfl rfl ?_
  refine gl_iload hC 1 d_Law_law_337 rfl ?_
  refine gl_iconst hC 2 d_Law_law_339 (by decide) ?_
  refine gl_iadd hC d_Law_law_340 ?_
  refine gl_sld hC hX hbl hbA hi2 d_Law_law_341 ?_
  refine gl_swap ?_
  refine gl_callV hC [.int (xs (i + 1).toNatClampNeg), .int (xs (i + 2).toNatClampNeg)] [] ((Mod_match_m _ _ _ bo ba M ((xs (i + 1).toNatClampNeg)) ((xs (i + 2).toNatClampNeg)) μ v μ' h2).frame _) kc_Law_63 0 (g_lay_objE rfl) rfl rfl ⟨by decide, by decide⟩ ⟨Nat.le_trans (Nat.le_refl _) hf.1, Nat.le_trans (Nat.le_refl _) hf.2⟩ (Nat.le_of_ble_eq_true rfl) [.int (xs (i + 2).toNatClampNeg), .int (xs (i + 1).toNatClampNeg), .ref (bo 0)] [.int v] rfl rfl d_Law_law_342 ?_
  refine gl_istore hC [(6, .int v), (5, .int (g_hk r)), (4, .int i), (0, .ref b), (1, .ref (ao 0)), (2, .ref (bo 0)), (3, .ref qo)] d_Law_law_345 (by decide) rfl ?_
  refine gl_aload_n hC 5 d_Law_law_347 rfl rfl ?_
  refine gl_callV hC [] [] ((Mod_thrown_m _ _ _ bo ba 0 μ' (μ'.1 0) μ' rfl).frame _) kc_Law_44 0 (g_lay_objE rfl) rfl rfl ⟨by decide, by decide⟩ ⟨Nat.le_trans (Nat.le_refl _) hf.1, Nat.le_trans (Nat.le_refl _) hf.2⟩ (Nat.le_of_ble_eq_true rfl) [.ref (bo 0)] [.int (μ'.1 0)] rfl rfl d_Law_law_348 ?_
  refine gl_iload hC 1 d_Law_law_351 rfl ?_
  refine gl_icmp_eq hC 358 d_Law_law_353 (by decide) (fun _ => ?_) (fun hne => absurd ha.1 hne)
  refine gl_swap ?_
  refine gl_iload hC 1 d_Law_law_358 rfl ?_
  cases r with
  | inr bb =>
    refine gl_if_ne hC 375 d_Law_law_360 (by decide) (fun _ => ?_) (fun hz => absurd hz (by cases bb <;> decide))
    refine gl_goto hC 543 d_Law_law_375 (by decide) ?_
    exact gl_lv [2, 3, 4, 5, 6] rfl k
  | inl w =>
    obtain rfl := ha.2 w rfl
    refine gl_if_ne hC 375 d_Law_law_360 (by decide) (fun hz => absurd rfl hz) (fun _ => ?_)
    refine gl_aload_n hC 6 d_Law_law_363 rfl rfl ?_
    refine gl_iconst hC 0 d_Law_law_364 (by decide) ?_
    refine gl_lald hC 29 (g_outAtE (g_lay_len LC_n)) g_in0 d_Law_law_365 ?_
    refine gl_iload hC 0 d_Law_law_366 rfl ?_
    refine gl_i2l hC d_Law_law_368 ?_
    refine gl_lcmp hC d_Law_law_369 ?_
    rw [law_upd, law_cmp]
    refine gl_if_eq hC 375 d_Law_law_370 (by decide) (fun _ => ?_) (fun hz => absurd rfl hz)
    refine gl_goto hC 543 d_Law_law_375 (by decide) ?_
    exact gl_lv [2, 3, 4, 5, 6] rfl k
theorem law_c5 {X : g_L} {cs : Nat × Nat} {b L : Nat} {xs : Nat → Int32} {ao aa bo ba : Nat → Nat} {qo : Nat} (hC : gCL X c_Law_law R_Law 13 500 7 ret) (hX : va_X b L xs X.1.2.2.2.2.1 X.1.2.2.2.2.1.heap) (hbl : b < X.1.2.2.2.2.1.heap.size) (hbA : ¬ X.2.2.2.2.1 b) (hst : g_St X.2.2.2.2.1 X.1.2.2.2.2.1 X.1.2.2.2.2.1.heap) (hnc : va_Nc g_ISE g_IAE X.1.2.2.2.2.1) (hfl : X.1.2.1.flags = flags0) (i : Int32) (hi1 : vp_in (i + 1) L) (hi2 : vp_in (i + 2) L) (σ μ : g_S) (f : Nat → Int64) (N : Nat) (r : g_R) (σ' : g_S) (M : Nat) (v : Int32) (μ' : g_S) (h1 : Desk_find N ((xs (i + 1).toNatClampNeg)) ((xs (i + 2).toNatClampNeg)) σ = some (r, σ')) (h2 : Mod_find M ((xs (i + 1).toNatClampNeg)) ((xs (i + 2).toNatClampNeg)) μ = some (v, μ')) (ha : g_Ans r v (μ'.1 0)) (hf : cs.1 + 1 ≤ X.1.2.2.2.1.cells ∧ cs.2 + 6 ≤ X.1.2.2.2.1.slots) (k : gl X (cs.1 + 1, cs.2 + 6) (lw_w ao aa bo ba qo X.2.2.1 X.2.2.2.1 σ' μ' (g_hf r f)) (lw_l b ao bo qo i) 543 []) : gl X cs (lw_w ao aa bo ba qo X.2.2.1 X.2.2.2.1 σ μ f) (lw_l b ao bo qo i) 378 [] := by
  refine gl_aload_n hC 2 d_Law_law_378 rfl rfl ?_
  refine gl_aload_n hC 1 d_Law_law_379 rfl rfl ?_
  refine gl_iload hC 0 d_Law_law_380 rfl ?_
  refine gl_iconst hC 1 d_Law_law_382 (by decide) ?_
  refine gl_iadd hC d_Law_law_383 ?_
  refine gl_sld hC hX hbl hbA hi1 d_Law_law_384 ?_
  refine gl_aload_n hC 1 d_Law_law_385 rfl rfl ?_
  refine gl_iload hC 0 d_Law_law_386 rfl ?_
  refine gl_iconst hC 2 d_Law_law_388 (by decide) ?_
  refine gl_iadd hC d_Law_law_389 ?_
  refine gl_sld hC hX hbl hbA hi2 d_Law_law_390 ?_
  refine gl_aload_n hC 4 d_Law_law_391 rfl rfl ?_
  refine gl_callH hC hst hnc [.ref (ao 0), .int (xs (i + 1).toNatClampNeg), .int (xs (i + 2).toNatClampNeg), .ref qo] [] ((H_find _ hfl _ _ _ ao aa qo N ((xs (i + 1).toNatClampNeg)) ((xs (i + 2).toNatClampNeg)) σ r σ' f h1).frame _) kh_Law_64 ⟨by decide, by decide⟩ hf (Nat.le_of_ble_eq_true rfl) [.ref qo, .int (xs (i + 2).toNatClampNeg), .int (xs (i + 1).toNatClampNeg), .ref (ao 0)] rfl d_Law_law_392 ?_
  refine gl_istore hC [(5, .int (g_hk r)), (4, .int i), (0, .ref b), (1, .ref (ao 0)), (2, .ref (bo 0)), (3, .ref qo)] d_Law_law_395 (by decide) rfl ?_
  refine gl_aload_n hC 4 d_Law_law_397 rfl rfl ?_
  refine gl_aload_n hC 2 d_Law_law_398 rfl rfl ?_
  refine gl_iload hC 1 d_Law_law_399 rfl ?_
  refine gl_iconst hC 1 d_Law_law_401 (by decide) ?_
  refine gl_iadd hC d_Law_law_402 ?_
  refine gl_sld hC hX hbl hbA hi1 d_Law_law_403 ?_
  refine gl_aload_n hC 2 d_Law_law_404 rfl rfl ?_
  refine gl_iload hC 1 d_Law_law_405 rfl ?_
  refine gl_iconst hC 2 d_Law_law_407 (by decide) ?_
  refine gl_iadd hC d_Law_law_408 ?_
  refine gl_sld hC hX hbl hbA hi2 d_Law_law_409 ?_
  refine gl_swap ?_
  refine gl_callV hC [.int (xs (i + 1).toNatClampNeg), .int (xs (i + 2).toNatClampNeg)] [] ((Mod_find_m _ _ _ bo ba M ((xs (i + 1).toNatClampNeg)) ((xs (i + 2).toNatClampNeg)) μ v μ' h2).frame _) kc_Law_66 0 (g_lay_objE rfl) rfl rfl ⟨by decide, by decide⟩ ⟨Nat.le_trans (Nat.le_refl _) hf.1, Nat.le_trans (Nat.le_refl _) hf.2⟩ (Nat.le_of_ble_eq_true rfl) [.int (xs (i + 2).toNatClampNeg), .int (xs (i + 1).toNatClampNeg), .ref (bo 0)] [.int v] rfl rfl d_Law_law_410 ?_
  refine gl_istore hC [(6, .int v), (5, .int (g_hk r)), (4, .int i), (0, .ref b), (1, .ref (ao 0)), (2, .ref (bo 0)), (3, .ref qo)] d_Law_law_413 (by decide) rfl ?_
  refine gl_aload_n hC 5 d_Law_law_415 rfl rfl ?_
  refine gl_callV hC [] [] ((Mod_thrown_m _ _ _ bo ba 0 μ' (μ'.1 0) μ' rfl).frame _) kc_Law_44 0 (g_lay_objE rfl) rfl rfl ⟨by decide, by decide⟩ ⟨Nat.le_trans (Nat.le_refl _) hf.1, Nat.le_trans (Nat.le_refl _) hf.2⟩ (Nat.le_of_ble_eq_true rfl) [.ref (bo 0)] [.int (μ'.1 0)] rfl rfl d_Law_law_416 ?_
  refine gl_iload hC 1 d_Law_law_419 rfl ?_
  refine gl_icmp_eq hC 426 d_Law_law_421 (by decide) (fun _ => ?_) (fun hne => absurd ha.1 hne)
  refine gl_swap ?_
  refine gl_iload hC 1 d_Law_law_426 rfl ?_
  cases r with
  | inr bb =>
    refine gl_if_ne hC 443 d_Law_law_428 (by decide) (fun _ => ?_) (fun hz => absurd hz (by cases bb <;> decide))
    refine gl_goto hC 543 d_Law_law_443 (by decide) ?_
    exact gl_lv [2, 3, 4, 5, 6] rfl k
  | inl w =>
    obtain rfl := ha.2 w rfl
    refine gl_if_ne hC 443 d_Law_law_428 (by decide) (fun hz => absurd rfl hz) (fun _ => ?_)
    refine gl_aload_n hC 6 d_Law_law_431 rfl rfl ?_
    refine gl_iconst hC 0 d_Law_law_432 (by decide) ?_
    refine gl_lald hC 29 (g_outAtE (g_lay_len LC_n)) g_in0 d_Law_law_433 ?_
    refine gl_iload hC 0 d_Law_law_434 rfl ?_
    refine gl_i2l hC d_Law_law_436 ?_
    refine gl_lcmp hC d_Law_law_437 ?_
    rw [law_upd, law_cmp]
    refine gl_if_eq hC 443 d_Law_law_438 (by decide) (fun _ => ?_) (fun hz => absurd rfl hz)
    refine gl_goto hC 543 d_Law_law_443 (by decide) ?_
    exact gl_lv [2, 3, 4, 5, 6] rfl k
theorem law_c6 {X : g_L} {cs : Nat × Nat} {b L : Nat} {xs : Nat → Int32} {ao aa bo ba : Nat → Nat} {qo : Nat} (hC : gCL X c_Law_law R_Law 13 500 7 ret) (hX : va_X b L xs X.1.2.2.2.2.1 X.1.2.2.2.2.1.heap) (hbl : b < X.1.2.2.2.2.1.heap.size) (hbA : ¬ X.2.2.2.2.1 b) (hst : g_St X.2.2.2.2.1 X.1.2.2.2.2.1 X.1.2.2.2.2.1.heap) (hnc : va_Nc g_ISE g_IAE X.1.2.2.2.2.1) (hfl : X.1.2.1.flags = flags0) (i : Int32) (hi1 : vp_in (i + 1) L) (hi2 : vp_in (i + 2) L) (σ μ : g_S) (f : Nat → Int64) (N : Nat) (r : g_R) (σ' : g_S) (M : Nat) (v : Int32) (μ' : g_S) (h1 : Desk_group N ((xs (i + 1).toNatClampNeg)) ((g_bo (xs (i + 2).toNatClampNeg))) σ = some (r, σ')) (h2 : Mod_group M ((xs (i + 1).toNatClampNeg)) ((g_bo (xs (i + 2).toNatClampNeg))) μ = some (v, μ')) (ha : g_Ans r v (μ'.1 0)) (hf : cs.1 + 1 ≤ X.1.2.2.2.1.cells ∧ cs.2 + 6 ≤ X.1.2.2.2.1.slots) (k : gl X (cs.1 + 1, cs.2 + 6) (lw_w ao aa bo ba qo X.2.2.1 X.2.2.2.1 σ' μ' (g_hf r f)) (lw_l b ao bo qo i) 543 []) : gl X cs (lw_w ao aa bo ba qo X.2.2.1 X.2.2.2.1 σ μ f) (lw_l b ao bo qo i) 446 [] := by
  refine gl_aload_n hC 2 d_Law_law_446 rfl rfl ?_
  refine gl_aload_n hC 1 d_Law_law_447 rfl rfl ?_
  refine gl_iload hC 0 d_Law_law_448 rfl ?_
  refine gl_iconst hC 1 d_Law_law_450 (by decide) ?_
  refine gl_iadd hC d_Law_law_451 ?_
  refine gl_sld hC hX hbl hbA hi1 d_Law_law_452 ?_
  refine gl_aload_n hC 1 d_Law_law_453 rfl rfl ?_
  refine gl_iload hC 0 d_Law_law_454 rfl ?_
  refine gl_iconst hC 2 d_Law_law_456 (by decide) ?_
  refine gl_iadd hC d_Law_law_457 ?_
  refine gl_sld hC hX hbl hbA hi2 d_Law_law_458 ?_
  suffices k1 : gl X _ _ _ 467 (.int (g_bo (xs (i + 2).toNatClampNeg)) :: [.int (xs (i + 1).toNatClampNeg), .ref (ao 0)]) from gl_if_eq hC 466 d_Law_law_459 (by decide) (fun h => gl_iconst hC (g_bo _) d_Law_law_466 (by rw [g_bo, if_pos h]; rfl) k1) (fun h => gl_iconst hC (g_bo _) d_Law_law_462 (by rw [g_bo, if_neg h]; rfl) (gl_goto hC 467 d_Law_law_463 (by decide) k1))
  refine gl_aload_n hC 4 d_Law_law_467 rfl rfl ?_
  refine gl_callH hC hst hnc [.ref (ao 0), .int (xs (i + 1).toNatClampNeg), .int (g_bo (xs (i + 2).toNatClampNeg)), .ref qo] [] ((H_group _ hfl _ _ _ ao aa qo N ((xs (i + 1).toNatClampNeg)) ((g_bo (xs (i + 2).toNatClampNeg))) σ r σ' f h1).frame _) kh_Law_67 ⟨by decide, by decide⟩ hf (Nat.le_of_ble_eq_true rfl) [.ref qo, .int (g_bo (xs (i + 2).toNatClampNeg)), .int (xs (i + 1).toNatClampNeg), .ref (ao 0)] rfl d_Law_law_468 ?_
  refine gl_istore hC [(5, .int (g_hk r)), (4, .int i), (0, .ref b), (1, .ref (ao 0)), (2, .ref (bo 0)), (3, .ref qo)] d_Law_law_471 (by decide) rfl ?_
  refine gl_aload_n hC 4 d_Law_law_473 rfl rfl ?_
  refine gl_aload_n hC 2 d_Law_law_474 rfl rfl ?_
  refine gl_iload hC 1 d_Law_law_475 rfl ?_
  refine gl_iconst hC 1 d_Law_law_477 (by decide) ?_
  refine gl_iadd hC d_Law_law_478 ?_
  refine gl_sld hC hX hbl hbA hi1 d_Law_law_479 ?_
  refine gl_aload_n hC 2 d_Law_law_480 rfl rfl ?_
  refine gl_iload hC 1 d_Law_law_481 rfl ?_
  refine gl_iconst hC 2 d_Law_law_483 (by decide) ?_
  refine gl_iadd hC d_Law_law_484 ?_
  refine gl_sld hC hX hbl hbA hi2 d_Law_law_485 ?_
  suffices k1 : gl X _ _ _ 494 (.int (g_bo (xs (i + 2).toNatClampNeg)) :: [.int (xs (i + 1).toNatClampNeg), .ref (bo 0)]) from gl_if_eq hC 493 d_Law_law_486 (by decide) (fun h => gl_iconst hC (g_bo _) d_Law_law_493 (by rw [g_bo, if_pos h]; rfl) k1) (fun h => gl_iconst hC (g_bo _) d_Law_law_489 (by rw [g_bo, if_neg h]; rfl) (gl_goto hC 494 d_Law_law_490 (by decide) k1))
  refine gl_swap ?_
  refine gl_callV hC [.int (xs (i + 1).toNatClampNeg), .int (g_bo (xs (i + 2).toNatClampNeg))] [] ((Mod_group_m _ _ _ bo ba M ((xs (i + 1).toNatClampNeg)) ((g_bo (xs (i + 2).toNatClampNeg))) μ v μ' h2).frame _) kc_Law_70 0 (g_lay_objE rfl) rfl rfl ⟨by decide, by decide⟩ ⟨Nat.le_trans (Nat.le_refl _) hf.1, Nat.le_trans (Nat.le_refl _) hf.2⟩ (Nat.le_of_ble_eq_true rfl) [.int (g_bo (xs (i + 2).toNatClampNeg)), .int (xs (i + 1).toNatClampNeg), .ref (bo 0)] [.int v] rfl rfl d_Law_law_494 ?_
  refine gl_istore hC [(6, .int v), (5, .int (g_hk r)), (4, .int i), (0, .ref b), (1, .ref (ao 0)), (2, .ref (bo 0)), (3, .ref qo)] d_Law_law_497 (by decide) rfl ?_
  refine gl_aload_n hC 5 d_Law_law_499 rfl rfl ?_
  refine gl_callV hC [] [] ((Mod_thrown_m _ _ _ bo ba 0 μ' (μ'.1 0) μ' rfl).frame _) kc_Law_44 0 (g_lay_objE rfl) rfl rfl ⟨by decide, by decide⟩ ⟨Nat.le_trans (Nat.le_refl _) hf.1, Nat.le_trans (Nat.le_refl _) hf.2⟩ (Nat.le_of_ble_eq_true rfl) [.ref (bo 0)] [.int (μ'.1 0)] rfl rfl d_Law_law_500 ?_
  refine gl_iload hC 1 d_Law_law_503 rfl ?_
  refine gl_icmp_eq hC 510 d_Law_law_505 (by decide) (fun _ => ?_) (fun hne => absurd ha.1 hne)
  refine gl_swap ?_
  refine gl_iload hC 1 d_Law_law_510 rfl ?_
  cases r with
  | inr bb =>
    refine gl_if_ne hC 527 d_Law_law_512 (by decide) (fun _ => ?_) (fun hz => absurd hz (by cases bb <;> decide))
    refine gl_goto hC 543 d_Law_law_527 (by decide) ?_
    exact gl_lv [2, 3, 4, 5, 6] rfl k
  | inl w =>
    obtain rfl := ha.2 w rfl
    refine gl_if_ne hC 527 d_Law_law_512 (by decide) (fun hz => absurd rfl hz) (fun _ => ?_)
    refine gl_aload_n hC 6 d_Law_law_515 rfl rfl ?_
    refine gl_iconst hC 0 d_Law_law_516 (by decide) ?_
    refine gl_lald hC 29 (g_outAtE (g_lay_len LC_n)) g_in0 d_Law_law_517 ?_
    refine gl_iload hC 0 d_Law_law_518 rfl ?_
    refine gl_i2l hC d_Law_law_520 ?_
    refine gl_lcmp hC d_Law_law_521 ?_
    rw [law_upd, law_cmp]
    refine gl_if_eq hC 527 d_Law_law_522 (by decide) (fun _ => ?_) (fun hz => absurd rfl hz)
    refine gl_goto hC 543 d_Law_law_527 (by decide) ?_
    exact gl_lv [2, 3, 4, 5, 6] rfl k
theorem law_c2 {X : g_L} {cs : Nat × Nat} {b : Nat} {ao aa bo ba : Nat → Nat} {qo : Nat} (hC : gCL X c_Law_law R_Law 13 500 7 ret) (i : Int32) (σ μ : g_S) (f : Nat → Int64) (N : Nat) (v : Int32) (σ' : g_S) (M : Nat) (μ' : g_S) (h1 : Desk_place N σ = some (v, σ')) (h2 : Mod_place M μ = some (v, μ')) (hf : cs.1 ≤ X.1.2.2.2.1.cells ∧ cs.2 ≤ X.1.2.2.2.1.slots) (k : gl X cs (lw_w ao aa bo ba qo X.2.2.1 X.2.2.2.1 σ' μ' f) (lw_l b ao bo qo i) 543 []) : gl X cs (lw_w ao aa bo ba qo X.2.2.1 X.2.2.2.1 σ μ f) (lw_l b ao bo qo i) 284 [] := by
  refine gl_aload_n hC 2 d_Law_law_284 rfl rfl ?_
  refine gl_ws (List.append_assoc _ _ _) ?_
  refine gl_callV hC [] [] ((Desk_place_m _ _ _ ao aa N σ v σ' h1).frame _) kc_Law_52 0 (g_lay_objE rfl) rfl rfl ⟨by decide, by decide⟩ hf (Nat.le_of_ble_eq_true rfl) [.ref (ao 0)] [.int v] rfl rfl d_Law_law_285 ?_
  refine gl_ws (List.append_assoc _ _ _).symm ?_
  refine gl_aload_n hC 3 d_Law_law_288 rfl rfl ?_
  refine gl_swap ?_
  refine gl_callV hC [] [.int v] ((Mod_place_m _ _ _ bo ba M μ v μ' h2).frame _) kc_Law_55 0 (g_lay_objE rfl) rfl rfl ⟨by decide, by decide⟩ hf (Nat.le_of_ble_eq_true rfl) [.ref (bo 0), .int v] [.int v, .int v] rfl rfl d_Law_law_289 ?_
  refine gl_swap ?_
  exact gl_icmp_eq hC 543 d_Law_law_292 (by decide) (fun _ => k) (fun hne => absurd rfl hne)
theorem law_c3 {X : g_L} {cs : Nat × Nat} {b : Nat} {ao aa bo ba : Nat → Nat} {qo : Nat} (hC : gCL X c_Law_law R_Law 13 500 7 ret) (i : Int32) (σ μ : g_S) (f : Nat → Int64) (N : Nat) (v : Int32) (σ' : g_S) (M : Nat) (μ' : g_S) (h1 : Desk_text N σ = some (v, σ')) (h2 : Mod_text M μ = some (v, μ')) (hf : cs.1 ≤ X.1.2.2.2.1.cells ∧ cs.2 ≤ X.1.2.2.2.1.slots) (k : gl X cs (lw_w ao aa bo ba qo X.2.2.1 X.2.2.2.1 σ' μ' f) (lw_l b ao bo qo i) 543 []) : gl X cs (lw_w ao aa bo ba qo X.2.2.1 X.2.2.2.1 σ μ f) (lw_l b ao bo qo i) 297 [] := by
  refine gl_aload_n hC 2 d_Law_law_297 rfl rfl ?_
  refine gl_ws (List.append_assoc _ _ _) ?_
  refine gl_callV hC [] [] ((Desk_text_m _ _ _ ao aa N σ v σ' h1).frame _) kc_Law_56 0 (g_lay_objE rfl) rfl rfl ⟨by decide, by decide⟩ hf (Nat.le_of_ble_eq_true rfl) [.ref (ao 0)] [.int v] rfl rfl d_Law_law_298 ?_
  refine gl_ws (List.append_assoc _ _ _).symm ?_
  refine gl_aload_n hC 3 d_Law_law_301 rfl rfl ?_
  refine gl_swap ?_
  refine gl_callV hC [] [.int v] ((Mod_text_m _ _ _ bo ba M μ v μ' h2).frame _) kc_Law_59 0 (g_lay_objE rfl) rfl rfl ⟨by decide, by decide⟩ hf (Nat.le_of_ble_eq_true rfl) [.ref (bo 0), .int v] [.int v, .int v] rfl rfl d_Law_law_302 ?_
  refine gl_swap ?_
  exact gl_icmp_eq hC 543 d_Law_law_305 (by decide) (fun _ => k) (fun hne => absurd rfl hne)
theorem law_c7 {X : g_L} {cs : Nat × Nat} {b : Nat} {ao aa bo ba : Nat → Nat} {qo : Nat} (hC : gCL X c_Law_law R_Law 13 500 7 ret) (i : Int32) (σ μ : g_S) (f : Nat → Int64) (N : Nat) (v : Int32) (σ' : g_S) (M : Nat) (μ' : g_S) (h1 : Desk_steps N σ = some (v, σ')) (h2 : Mod_steps M μ = some (v, μ')) (hf : cs.1 ≤ X.1.2.2.2.1.cells ∧ cs.2 ≤ X.1.2.2.2.1.slots) (k : gl X cs (lw_w ao aa bo ba qo X.2.2.1 X.2.2.2.1 σ' μ' f) (lw_l b ao bo qo i) 543 []) : gl X cs (lw_w ao aa bo ba qo X.2.2.1 X.2.2.2.1 σ μ f) (lw_l b ao bo qo i) 530 [] := by
  refine gl_aload_n hC 2 d_Law_law_530 rfl rfl ?_
  refine gl_ws (List.append_assoc _ _ _) ?_
  refine gl_callV hC [] [] ((Desk_steps_m _ _ _ ao aa N σ v σ' h1).frame _) kc_Law_71 0 (g_lay_objE rfl) rfl rfl ⟨by decide, by decide⟩ hf (Nat.le_of_ble_eq_true rfl) [.ref (ao 0)] [.int v] rfl rfl d_Law_law_531 ?_
  refine gl_ws (List.append_assoc _ _ _).symm ?_
  refine gl_aload_n hC 3 d_Law_law_534 rfl rfl ?_
  refine gl_swap ?_
  refine gl_callV hC [] [.int v] ((Mod_steps_m _ _ _ bo ba M μ v μ' h2).frame _) kc_Law_74 0 (g_lay_objE rfl) rfl rfl ⟨by decide, by decide⟩ hf (Nat.le_of_ble_eq_true rfl) [.ref (bo 0), .int v] [.int v, .int v] rfl rfl d_Law_law_535 ?_
  refine gl_swap ?_
  exact gl_icmp_eq hC 543 d_Law_law_538 (by decide) (fun _ => k) (fun hne => absurd rfl hne)
theorem law_i {j : Nat} (h : j ≤ 2048) (k : Nat) (hk : k ≤ 8) : nI j + Int32.ofNat k = nI (j + k) := by
  show Int32.ofNat j + Int32.ofNat k = Int32.ofNat (j + k)
  exact (Int32.ofNat_add j k).symm
theorem law_in {j L : Nat} (hL : L ≤ 2048) (h : j + 4 ≤ L) (k : Nat) (hk : k < 4) : vp_in (nI j + Int32.ofNat k) L := by
  rw [law_i (by omega) k (by omega)]
  exact vp_in_nI (by omega) (by omega)
theorem law_lt {j L : Nat} (hL : L ≤ 2048) (hj : j ≤ 2048) (h : ¬ Int32.ofNat L - 4 < nI j) : j + 4 ≤ L := by
  have h1 : (Int32.ofNat L - 4).toInt = (L : Int) - 4 := by
    rw [show (4 : Int32) = Int32.ofInt 4 from rfl, show Int32.ofNat L = Int32.ofInt (L : Int) from rfl, ← Int32.ofInt_sub, Int32.toInt_ofInt_of_le (by omega) (by omega)]
  have h2 : (nI j).toInt = (j : Int) := by
    show (Int32.ofInt (j : Int)).toInt = j
    rw [Int32.toInt_ofInt_of_le (by omega) (by omega)]
  rw [Int32.lt_iff_toInt_lt, h1, h2] at h
  omega
theorem law_loop {X : g_L} {b L : Nat} {xs : Nat → Int32} {ao aa bo ba : Nat → Nat} {qo : Nat} (hC : gCL X c_Law_law R_Law 13 500 7 ret) (hX : va_X b L xs X.1.2.2.2.2.1 X.1.2.2.2.2.1.heap) (hbl : b < X.1.2.2.2.2.1.heap.size) (hbA : ¬ X.2.2.2.2.1 b) (hst : g_St X.2.2.2.2.1 X.1.2.2.2.2.1 X.1.2.2.2.2.1.heap) (hnc : va_Nc g_ISE g_IAE X.1.2.2.2.2.1) (hfl : X.1.2.1.flags = flags0) (hR : X.1.2.2.2.1 = room_1) (hL : L ≤ 2048) {I : g_S → g_S → Prop} (hI : g_Sim I) (hret : ∀ (cs : Nat × Nat) (ws : va_W) (lv : List (Nat × Value)), cs.1 ≤ 601024 ∧ cs.2 ≤ 7293033 → gl X cs ws lv 550 [.int 1]) : ∀ (n j : Nat) (σ μ : g_S) (f : Nat → Int64), 4 * j ≤ L → L < 4 * j + 4 * n → I σ μ → gl X (59 + j, 1349304 + 6 * j) (lw_w ao aa bo ba qo X.2.2.1 X.2.2.2.1 σ μ f) (lw_l b ao bo qo (nI (4 * j))) 23 [] := by
  intro n
  induction n with
  | zero =>
    intro j σ μ f h1 h2
    exact absurd h2 (by omega)
  | succ n ih =>
    intro j σ μ f hj hn hr
    refine gl_iload hC 0 d_Law_law_23 rfl ?_
    refine gl_aload_n hC 1 d_Law_law_25 rfl rfl ?_
    refine gl_slen hC hX hbl hbA d_Law_law_26 ?_
    refine gl_iconst hC 4 d_Law_law_27 (by decide) ?_
    refine gl_isub hC d_Law_law_28 ?_
    refine gl_icmp_gt hC 549 d_Law_law_29 (by decide) (fun _ => ?_) (fun hlt => ?_)
    · refine gl_iconst hC 1 d_Law_law_549 (by decide) ?_
      exact hret _ _ _ ⟨by show 59 + j ≤ 601024; omega, by show 1349304 + 6 * j ≤ 7293033; omega⟩
    have hle : 4 * j + 4 ≤ L := law_lt hL (by omega) hlt
    have hi1 : vp_in (nI (4 * j) + 1) L := law_in hL hle 1 (by decide)
    have hi2 : vp_in (nI (4 * j) + 2) L := law_in hL hle 2 (by decide)
    have hi3 : vp_in (nI (4 * j) + 3) L := law_in hL hle 3 (by decide)
    have hi0 : vp_in (nI (4 * j)) L := vp_in_nI (by omega) (by omega)
    have hF : (59 + j) + 1 ≤ X.1.2.2.2.1.cells ∧ (1349304 + 6 * j) + 6 ≤ X.1.2.2.2.1.slots := by rw [hR]; exact ⟨by show 59 + j + 1 ≤ 601024; omega, by show 1349304 + 6 * j + 6 ≤ 7293033; omega⟩
    have hback : ∀ (σ' μ' : g_S) (f' : Nat → Int64), I σ' μ' → gl X ((59 + j) + 1, (1349304 + 6 * j) + 6) (lw_w ao aa bo ba qo X.2.2.1 X.2.2.2.1 σ' μ' f') (lw_l b ao bo qo (nI (4 * j))) 543 [] := fun σ' μ' f' hI' => by
      refine gl_iinc hC (nI (4 * (j + 1))) 0 (lw_l b ao bo qo (nI (4 * (j + 1)))) d_Law_law_543 rfl (law_i (by omega) 4 (by decide)) (by decide) rfl ?_
      refine gl_goto hC 23 d_Law_law_546 (by decide) ?_
      exact ih (j + 1) σ' μ' f' (by omega) (by omega) hI'
    obtain ⟨s0, s1, s2, s3, s4, s5, s6, s7⟩ := hI.2 σ μ hr
    refine gl_aload_n hC 1 d_Law_law_32 rfl rfl ?_
    refine gl_iload hC 0 d_Law_law_33 rfl ?_
    refine gl_sld hC hX hbl hbA hi0 d_Law_law_35 ?_
    refine gl_bipush hC 7 d_Law_law_36 (by decide) ?_
    refine gl_iand hC d_Law_law_38 ?_
    rcases law_and7 (xs (nI (4 * j)).toNatClampNeg) with e | e | e | e | e | e | e | e
    · rw [e]
      refine gl_tableIn hC 45 84 d_Law_law_39 (by decide) (by decide) (by decide) (by decide) ?_
      obtain ⟨N, r, σ', M, v, μ', h1, h2, ha, hi⟩ := s0 ((xs (nI (4 * j) + 1).toNatClampNeg).toInt64 <<< ((32 : Int32).toInt64 &&& 63) ||| (xs (nI (4 * j) + 2).toNatClampNeg).toInt64 &&& 4294967295) (xs (nI (4 * j) + 3).toNatClampNeg)
      exact law_c0 hC hX hbl hbA hst hnc hfl _ _ _ rfl rfl hi3 hi1 hi2 σ μ f N r σ' M v μ' h1 h2 ha hF (hback σ' μ' _ hi)
    · rw [e]
      refine gl_tableIn hC 145 184 d_Law_law_39 (by decide) (by decide) (by decide) (by decide) ?_
      obtain ⟨N, r, σ', M, v, μ', h1, h2, ha, hnt, hi⟩ := s1 (xs (nI (4 * j) + 1).toNatClampNeg) (xs (nI (4 * j) + 2).toNatClampNeg)
      exact law_c1 hC hX hbl hbA hst hnc hfl _ hi1 hi2 σ μ f N r σ' M v μ' h1 h2 ha hnt hF (hback σ' μ' _ hi)
    · rw [e]
      refine gl_tableIn hC 245 284 d_Law_law_39 (by decide) (by decide) (by decide) (by decide) ?_
      obtain ⟨N, v, σ', M, μ', h1, h2, hi⟩ := s2
      refine law_c2 hC _ σ μ f N v σ' M μ' h1 h2 ⟨Nat.le_trans (Nat.le_add_right _ _) hF.1, Nat.le_trans (Nat.le_add_right _ _) hF.2⟩ ?_
      exact gl_widen _ _ ⟨Nat.le_add_right _ _, Nat.le_add_right _ _⟩ (hback σ' μ' f hi)
    · rw [e]
      refine gl_tableIn hC 258 297 d_Law_law_39 (by decide) (by decide) (by decide) (by decide) ?_
      obtain ⟨N, v, σ', M, μ', h1, h2, hi⟩ := s3
      refine law_c3 hC _ σ μ f N v σ' M μ' h1 h2 ⟨Nat.le_trans (Nat.le_add_right _ _) hF.1, Nat.le_trans (Nat.le_add_right _ _) hF.2⟩ ?_
      exact gl_widen _ _ ⟨Nat.le_add_right _ _, Nat.le_add_right _ _⟩ (hback σ' μ' f hi)
    · rw [e]
      refine gl_tableIn hC 271 310 d_Law_law_39 (by decide) (by decide) (by decide) (by decide) ?_
      obtain ⟨N, r, σ', M, v, μ', h1, h2, ha, hi⟩ := s4 (xs (nI (4 * j) + 1).toNatClampNeg) (xs (nI (4 * j) + 2).toNatClampNeg)
      exact law_c4 hC hX hbl hbA hst hnc hfl _ hi1 hi2 σ μ f N r σ' M v μ' h1 h2 ha hF (hback σ' μ' _ hi)
    · rw [e]
      refine gl_tableIn hC 339 378 d_Law_law_39 (by decide) (by decide) (by decide) (by decide) ?_
      obtain ⟨N, r, σ', M, v, μ', h1, h2, ha, hi⟩ := s5 (xs (nI (4 * j) + 1).toNatClampNeg) (xs (nI (4 * j) + 2).toNatClampNeg)
      exact law_c5 hC hX hbl hbA hst hnc hfl _ hi1 hi2 σ μ f N r σ' M v μ' h1 h2 ha hF (hback σ' μ' _ hi)
    · rw [e]
      refine gl_tableIn hC 407 446 d_Law_law_39 (by decide) (by decide) (by decide) (by decide) ?_
      obtain ⟨N, r, σ', M, v, μ', h1, h2, ha, hi⟩ := s6 (xs (nI (4 * j) + 1).toNatClampNeg) (xs (nI (4 * j) + 2).toNatClampNeg)
      exact law_c6 hC hX hbl hbA hst hnc hfl _ hi1 hi2 σ μ f N r σ' M v μ' h1 h2 ha hF (hback σ' μ' _ hi)
    · rw [e]
      refine gl_tableIn hC 491 530 d_Law_law_39 (by decide) (by decide) (by decide) (by decide) ?_
      obtain ⟨N, v, σ', M, μ', h1, h2, hi⟩ := s7
      refine law_c7 hC _ σ μ f N v σ' M μ' h1 h2 ⟨Nat.le_trans (Nat.le_add_right _ _) hF.1, Nat.le_trans (Nat.le_add_right _ _) hF.2⟩ ?_
      exact gl_widen _ _ ⟨Nat.le_add_right _ _, Nat.le_add_right _ _⟩ (hback σ' μ' f hi)
theorem law_start {X : g_L} {b L : Nat} {xs : Nat → Int32} (hC : gCL X c_Law_law R_Law 13 500 7 ret) (hX : va_X b L xs X.1.2.2.2.2.1 X.1.2.2.2.2.1.heap) (hbl : b < X.1.2.2.2.2.1.heap.size) (hbA : ¬ X.2.2.2.2.1 b) (hst : g_St X.2.2.2.2.1 X.1.2.2.2.2.1 X.1.2.2.2.2.1.heap) (hnc : va_Nc g_ISE g_IAE X.1.2.2.2.2.1) (hfl : X.1.2.1.flags = flags0) (hR : X.1.2.2.2.1 = room_1) (hL : L ≤ 2048) {I : g_S → g_S → Prop} (hI : g_Sim I) (hret : ∀ (cs : Nat × Nat) (ws : va_W) (lv : List (Nat × Value)), cs.1 ≤ 601024 ∧ cs.2 ≤ 7293033 → gl X cs ws lv 550 [.int 1]) (hGD : ∀ vm, X.1.2.2.2.2.1.WarmedH vm → g_GD vm) : gl X (0, 0) [] [(0, .ref b)] 0 [] := by
  refine gl_new hC (ci := 0) in_Desk ty_Desk ty_Desk_ok k_cl_Law_8 k_ob_Desk k_ii_Desk rfl [.null, .null, .null, .null, .int 0, .int 0, .int 0, .int 0] (by decide +kernel) (by rw [hR]; exact ⟨Nat.le_of_ble_eq_true rfl, Nat.le_of_ble_eq_true rfl⟩) d_Law_law_0 (fun qa => ?_)
  refine gl_dup hC d_Law_law_3 rfl ?_
  refine gl_callI hC (G := g_GD) [] [.ref qa] (K_Desk _ _ _ _ qa) hGD ki_Law_32 ⟨by decide, by decide⟩ (by rw [hR]; exact ⟨Nat.le_of_ble_eq_true rfl, Nat.le_of_ble_eq_true rfl⟩) (Nat.le_of_ble_eq_true rfl) [.ref qa, .ref qa] rfl d_Law_law_4 (fun _ hw => ?_)
  obtain ⟨ao, aa, rfl, rfl⟩ := hw
  refine gl_astore_n hC [(1, .ref (ao 0)), (0, .ref b)] d_Law_law_7 rfl (by decide) rfl ?_
  refine gl_new hC (ci := 4) in_Mod ty_Mod ty_Mod_ok k_cl_Law_33 k_ob_Mod k_ii_Mod rfl [.int 0, .null, .int 0, .null, .int 0, .int 0, .int 0, .int 0, .int 0, .null, .int 0, .int 0, .null, .null, .null, .null, .null, .null, .null, .null, .null, .int 0, .int 0, .null, .null, .int 0, .int 0, .int 0, .int 0, .null, .null, .null, .null, .int 0, .int 0, .int 0, .int 0, .null, .null, .null, .null, .null, .null, .int 0, .null, .null, .null, .null] (by decide +kernel) (by rw [hR]; exact ⟨Nat.le_of_ble_eq_true rfl, Nat.le_of_ble_eq_true rfl⟩) d_Law_law_8 (fun qb => ?_)
  refine gl_dup hC d_Law_law_11 rfl ?_
  refine gl_swap ?_
  refine gl_callI hC (G := fun _ => True) [] [.ref qb] ((K_Mod _ _ _ _ qb).frame _) (fun _ _ => trivial) ki_Law_35 ⟨by decide, by decide⟩ (by rw [hR]; exact ⟨Nat.le_of_ble_eq_true rfl, Nat.le_of_ble_eq_true rfl⟩) (Nat.le_of_ble_eq_true rfl) [.ref qb, .ref qb] rfl d_Law_law_12 (fun _ hw => ?_)
  obtain ⟨_, ⟨bo, ba, rfl, rfl⟩, rfl⟩ := hw
  refine gl_astore_n hC [(2, .ref (bo 0)), (1, .ref (ao 0)), (0, .ref b)] d_Law_law_15 rfl (by decide) rfl ?_
  refine gl_iconst hC 1 d_Law_law_16 (by decide) ?_
  refine gl_newaL hC k_arrL 1 (by decide) (by decide) (by rw [hR]; exact ⟨Nat.le_of_ble_eq_true rfl, Nat.le_of_ble_eq_true rfl⟩) d_Law_law_17 (fun qo => ?_)
  refine gl_astore_n hC [(3, .ref qo), (2, .ref (bo 0)), (1, .ref (ao 0)), (0, .ref b)] d_Law_law_19 rfl (by decide) rfl ?_
  refine gl_iconst hC 0 d_Law_law_20 (by decide) ?_
  refine gl_istore hC [(4, .int 0), (3, .ref qo), (2, .ref (bo 0)), (1, .ref (ao 0)), (0, .ref b)] d_Law_law_21 (by decide) rfl ?_
  refine gl_lv [0, 4, 3, 2, 1] rfl ?_
  refine gl_ws (ws1 := LM bo ba X.2.2.1 σM0 ++ (LC ao aa X.2.2.1 σC0 ++ g_out qo X.2.2.2.1 (fun _ => 0))) (List.append_assoc _ _ _) ?_
  refine gl_swap ?_
  exact law_loop (ao := ao) (aa := aa) (bo := bo) (ba := ba) (qo := qo) hC hX hbl hbA hst hnc hfl hR hL hI hret (L + 1) 0 σC0 σM0 (fun _ => 0) (Nat.zero_le _) (by omega) hI.1
