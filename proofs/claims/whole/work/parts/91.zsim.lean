/-! the pure premise over the integers -/
def zhk : z_R → Int
  | .inl _ => 0
  | .inr false => 1
  | .inr true => 2
def zAns (r : z_R) (v t : Int) : Prop := t = zhk r ∧ ∀ w, r = .inl w → w = v
def zbo (a : Int) : Int := if a = 0 then 0 else 1
def zC0 : z_S := (fun k => if k = 1 then -1 else 0, fun _ _ => 0)
def zM0 : z_S := (fun k => if k = 6 then -1 else 0, fun _ _ => 0)
def z_Sim (J : z_S → z_S → Prop) : Prop := J zC0 zM0 ∧ ∀ σ μ, zR σ → zR μ → J σ μ →
  (∀ a b, zin b → ∃ N r σ' M v μ', zDesk_put N a b σ = some (r, σ') ∧ zMod_put M a b μ = some (v, μ') ∧ zAns r v (μ'.1 0) ∧ J σ' μ') ∧
  (∀ a b, zB a → zB b → ∃ N r σ' M v μ', zDesk_pattern N a b σ = some (r, σ') ∧ zMod_pattern M a b μ = some (v, μ') ∧ zAns r v (μ'.1 0) ∧ r ≠ .inr true ∧ J σ' μ') ∧
  (∃ N v σ' M μ', zDesk_place N σ = some (v, σ') ∧ zMod_place M μ = some (v, μ') ∧ J σ' μ') ∧
  (∃ N v σ' M μ', zDesk_text N σ = some (v, σ') ∧ zMod_text M μ = some (v, μ') ∧ J σ' μ') ∧
  (∀ a b, zin a → zin b → ∃ N r σ' M v μ', zDesk_match N a b σ = some (r, σ') ∧ zMod_match M a b μ = some (v, μ') ∧ zAns r v (μ'.1 0) ∧ J σ' μ') ∧
  (∀ a b, zin a → zin b → ∃ N r σ' M v μ', zDesk_find N a b σ = some (r, σ') ∧ zMod_find M a b μ = some (v, μ') ∧ zAns r v (μ'.1 0) ∧ J σ' μ') ∧
  (∀ a b, zin a → zB b → ∃ N r σ' M v μ', zDesk_group N a b σ = some (r, σ') ∧ zMod_group M a b μ = some (v, μ') ∧ zAns r v (μ'.1 0) ∧ J σ' μ') ∧
  (∃ N v σ' M μ', zDesk_steps N σ = some (v, σ') ∧ zMod_steps M μ = some (v, μ') ∧ J σ' μ')
def z_I (J : z_S → z_S → Prop) (s u : g_S) : Prop := ∃ σ μ, zR σ ∧ zR μ ∧ s = zo σ ∧ u = zo μ ∧ J σ μ
theorem zAns_g {r : z_R} {v t : Int} (h : zAns r v t) : g_Ans (zq r) (zI v) (zI t) := by
  obtain ⟨h1, h2⟩ := h
  cases r with
  | inl w => exact ⟨by rw [h1]; rfl, fun w' e => by cases e; rw [h2 w rfl]⟩
  | inr b => cases b <;> exact ⟨by rw [h1]; rfl, fun w' e => by cases e⟩
theorem zbo_g (b : Int32) : ∃ c : Int, zB c ∧ g_bo b = zI c ∧ zin c := by
  by_cases h : b = 0
  · exact ⟨0, Or.inl rfl, by rw [g_bo, if_pos h]; rfl, by decide⟩
  · exact ⟨1, Or.inr rfl, by rw [g_bo, if_neg h]; rfl, by decide⟩
theorem z_zC0 : σC0 = zo zC0 := by
  refine Prod.ext (funext fun k => ?_) rfl
  show (if k = 1 then (-1 : Int32) else 0) = zI (if k = 1 then -1 else 0)
  by_cases h : k = 1
  · rw [if_pos h, if_pos h]; decide
  · rw [if_neg h, if_neg h]; decide
theorem z_zM0 : σM0 = zo zM0 := by
  refine Prod.ext (funext fun k => ?_) rfl
  show (if k = 6 then (-1 : Int32) else 0) = zI (if k = 6 then -1 else 0)
  by_cases h : k = 6
  · rw [if_pos h, if_pos h]; decide
  · rw [if_neg h, if_neg h]; decide
theorem z_R0C : zR zC0 := ⟨fun k => zin_ite (by decide) (by decide), fun _ _ => (by decide : zin 0)⟩
theorem z_R0M : zR zM0 := ⟨fun k => zin_ite (by decide) (by decide), fun _ _ => (by decide : zin 0)⟩
theorem z_toI {a : Int32} : zI a.toInt = a := Int32.ofInt_toInt a
theorem g_of_z {J : z_S → z_S → Prop} (h : z_Sim J) : g_Sim (z_I J) := by
  refine ⟨⟨zC0, zM0, z_R0C, z_R0M, z_zC0, z_zM0, h.1⟩, ?_⟩
  rintro s u ⟨σ, μ, hσ, hμ, rfl, rfl, hJ⟩
  obtain ⟨s0, s1, s2, s3, s4, s5, s6, s7⟩ := h.2 σ μ hσ hμ hJ
  refine ⟨fun a b => ?_, fun a b => ?_, ?_, ?_, fun a b => ?_, fun a b => ?_, fun a b => ?_, ?_⟩
  · obtain ⟨N, r, σ', M, v, μ', e1, e2, ha, hj⟩ := s0 a b.toInt (zin_toInt b)
    obtain ⟨f1, f2, -⟩ := zDesk_put_r N a _ (zin_toInt b) σ hσ _ _ e1
    obtain ⟨g1, g2, g3⟩ := zMod_put_r M a _ (zin_toInt b) μ hμ _ _ e2
    rw [z_toI] at f1 g1
    exact ⟨N, _, _, M, _, _, f1, g1, zAns_g ha, σ', μ', f2, g3, rfl, rfl, hj⟩
  · obtain ⟨ca, ha1, ha2, ha3⟩ := zbo_g a
    obtain ⟨cb, hb1, hb2, hb3⟩ := zbo_g b
    obtain ⟨N, r, σ', M, v, μ', e1, e2, ha, hnt, hj⟩ := s1 ca cb ha1 hb1
    obtain ⟨f1, f2, -⟩ := zDesk_pattern_r N _ ha3 _ hb3 σ hσ _ _ e1
    obtain ⟨g1, g2, g3⟩ := zMod_pattern_r M _ ha3 _ hb3 μ hμ _ _ e2
    rw [← ha2, ← hb2] at f1 g1
    refine ⟨N, _, _, M, _, _, f1, g1, zAns_g ha, ?_, σ', μ', f2, g3, rfl, rfl, hj⟩
    cases r with
    | inl w => intro e; cases e
    | inr c => cases c
               · intro e; cases e
               · exact absurd rfl hnt
  · obtain ⟨N, v, σ', M, μ', e1, e2, hj⟩ := s2
    obtain ⟨f1, f2, f3⟩ := zDesk_place_r N σ hσ _ _ e1
    obtain ⟨g1, g2, g3⟩ := zMod_place_r M μ hμ _ _ e2
    exact ⟨N, _, _, M, _, f1, g1, σ', μ', f3, g3, rfl, rfl, hj⟩
  · obtain ⟨N, v, σ', M, μ', e1, e2, hj⟩ := s3
    obtain ⟨f1, f2, f3⟩ := zDesk_text_r N σ hσ _ _ e1
    obtain ⟨g1, g2, g3⟩ := zMod_text_r M μ hμ _ _ e2
    exact ⟨N, _, _, M, _, f1, g1, σ', μ', f3, g3, rfl, rfl, hj⟩
  · obtain ⟨N, r, σ', M, v, μ', e1, e2, ha, hj⟩ := s4 a.toInt b.toInt (zin_toInt a) (zin_toInt b)
    obtain ⟨f1, f2, -⟩ := zDesk_match_r N _ (zin_toInt a) _ (zin_toInt b) σ hσ _ _ e1
    obtain ⟨g1, g2, g3⟩ := zMod_match_r M _ (zin_toInt a) _ (zin_toInt b) μ hμ _ _ e2
    rw [z_toI, z_toI] at f1 g1
    exact ⟨N, _, _, M, _, _, f1, g1, zAns_g ha, σ', μ', f2, g3, rfl, rfl, hj⟩
  · obtain ⟨N, r, σ', M, v, μ', e1, e2, ha, hj⟩ := s5 a.toInt b.toInt (zin_toInt a) (zin_toInt b)
    obtain ⟨f1, f2, -⟩ := zDesk_find_r N _ (zin_toInt a) _ (zin_toInt b) σ hσ _ _ e1
    obtain ⟨g1, g2, g3⟩ := zMod_find_r M _ (zin_toInt a) _ (zin_toInt b) μ hμ _ _ e2
    rw [z_toI, z_toI] at f1 g1
    exact ⟨N, _, _, M, _, _, f1, g1, zAns_g ha, σ', μ', f2, g3, rfl, rfl, hj⟩
  · obtain ⟨cb, hb1, hb2, hb3⟩ := zbo_g b
    obtain ⟨N, r, σ', M, v, μ', e1, e2, ha, hj⟩ := s6 a.toInt cb (zin_toInt a) hb1
    obtain ⟨f1, f2, -⟩ := zDesk_group_r N _ (zin_toInt a) _ hb3 σ hσ _ _ e1
    obtain ⟨g1, g2, g3⟩ := zMod_group_r M _ (zin_toInt a) _ hb3 μ hμ _ _ e2
    rw [z_toI, ← hb2] at f1 g1
    exact ⟨N, _, _, M, _, _, f1, g1, zAns_g ha, σ', μ', f2, g3, rfl, rfl, hj⟩
  · obtain ⟨N, v, σ', M, μ', e1, e2, hj⟩ := s7
    obtain ⟨f1, f2, f3⟩ := zDesk_steps_r N σ hσ _ _ e1
    obtain ⟨g1, g2, g3⟩ := zMod_steps_r M μ hμ _ _ e2
    exact ⟨N, _, _, M, _, f1, g1, σ', μ', f3, g3, rfl, rfl, hj⟩
