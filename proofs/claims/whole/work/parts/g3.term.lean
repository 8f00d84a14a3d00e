section TE
variable {N : Nat} {σ μ : z_S} {G : Nat → Int → Int}
theorem tR_tr {σ1 μ1 : z_S} {X Y : Option (Int × z_S)} {b b0 : Int} (h : tR σ1 μ1 X Y b) (h1 : fPC σ σ1) (h2 : fPM μ μ1) (h3 : σ1.1 11 = σ.1 11) (h4 : b0 ≤ b) : tR σ μ X Y b0 := by
  obtain ⟨x, y, σ', μ', e1, e2, e3, e4, e5⟩ := h
  refine ⟨x, y, σ', μ', e1, e2, zfr_tr h1 e3, zfr_tr h2 e4, ?_⟩
  rcases e5 with ⟨G', b', q1, q2, q3⟩ | ⟨q1, q2, q3, q4, q5⟩
  · exact Or.inl ⟨G', b', q1, by omega, q3⟩
  · exact Or.inr ⟨q1, q2, q3, q4, by rw [q5, h3]⟩
/-- a term of the class with the atom that it may hold -/
def cT (N : Nat) (σ : z_S) : Option (Int × z_S) := (zReader_readTerm N σ).bind fun q => if (0 : Int) ≤ q.2.1 13 then some (0, q.2) else if q.2.1 19 = -1 then some (0, q.2) else (zReader_appendAtom N q.2).bind fun q => some (0, q.2)
theorem cT_atom {x : Int} {σ1 : z_S} (h : zReader_readTerm N σ = some (x, σ1)) (h1 : σ1.1 13 = -1) (h2 : σ1.1 19 ≠ -1) {Y : Option (Int × z_S)} {b : Int} (h3 : tR σ μ (zReader_appendAtom N σ1) Y b) : tR σ μ (cT N σ) Y b := by
  obtain ⟨x, y, σ', μ', e1, e2, e3⟩ := h3
  refine ⟨0, y, σ', μ', ?_, e2, e3⟩
  unfold cT
  rw [h]
  simp only [Option.bind_some]
  rw [if_neg (by omega), if_neg h2, e1]
  rfl
theorem cT_done {X Y : Option (Int × z_S)} {b : Int} (h : zReader_readTerm N σ = X.bind fun q => some (0, q.2)) (h3 : tR σ μ X Y b) : tR σ μ (cT N σ) Y b := by
  obtain ⟨x, y, σ', μ', e1, e2, e3, e4, e5⟩ := h3
  refine ⟨0, y, σ', μ', ?_, e2, e3, e4, e5⟩
  unfold cT
  rw [h, e1]
  simp only [Option.bind_some]
  rcases e5 with ⟨G', b', q1, q2, q3⟩ | ⟨q1, q2, q3, q4, q5⟩
  · rw [if_neg (by have := q1.2.2.2.2.1.1; omega), if_pos q3]
  · rw [if_pos q1]
/-- a test as an atom -/
theorem zLf (hN : 1000 ≤ N) {a b : Int} {σ1 μ1 : z_S} (hS : pS σ μ G a 0) (hb : a + 1 ≤ b) (hb2 : b ≤ μ.1 2) (fC : fPC σ σ1) (fM : fPM μ μ1)
    (hs : ∀ j i : Nat, 1 ≤ j → j ≤ 4 → i ≠ (σ.1 4).toNat → σ1.2 j i = σ.2 j i) (hs2 : ∀ j, 7 ≤ j → j ≤ 16 → σ1.2 j = σ.2 j) (hs1 : σ1.1 4 = σ.1 4 + 1 ∧ σ1.1 6 = σ.1 6 ∧ σ1.1 7 = σ.1 7 ∧ σ1.1 8 = σ.1 8 ∧ σ1.1 14 = σ.1 14 ∧ σ1.1 15 = σ.1 15 ∧ σ1.1 16 = σ.1 16) (hsx : σ1.1 11 = σ.1 11 ∧ σ1.1 12 = b ∧ σ1.1 13 = -1 ∧ σ1.1 19 = σ.1 4 ∧ σ1.1 20 = σ.1 4 ∧ σ1.1 21 = σ.1 8)
    (hm : ∀ j i : Nat, 3 ≤ j → j ≤ 11 → i ≠ (μ.1 8).toNat → μ1.2 j i = μ.2 j i) (hm2 : ∀ j, 14 ≤ j → j ≤ 16 → μ1.2 j = μ.2 j) (hm1 : μ1.1 8 = μ.1 8 + 1 ∧ μ1.1 9 = μ.1 9 ∧ μ1.1 14 = μ.1 14 ∧ μ.1 10 ≤ μ1.1 10) (hmx : μ1.1 11 = b ∧ μ1.1 12 = -1 ∧ μ1.1 10 ≤ b ∧ μ1.2 9 (μ.1 8).toNat = -1 ∧ μ1.2 10 (μ.1 8).toNat = μ.1 9)
    (hk : 3 ≤ μ1.2 3 (μ.1 8).toNat ∧ μ1.2 3 (μ.1 8).toNat ≤ 7) (hpt : pTest σ1 μ1 (fun _ => σ.1 4) (μ.1 8)) (hbk : μ1.2 3 (μ.1 8).toNat = 7 → σ1.2 4 (σ.1 4).toNat = μ1.2 5 (μ.1 8).toNat) (hbk2 : σ1.2 1 (σ.1 4).toNat = 6 → μ1.2 3 (μ.1 8).toNat = 7) (hpm : σ1.1 5 = μ1.1 10 ∧ ∀ i : Nat, (i : Int) < μ1.1 10 → pMem σ1 μ1 i) :
    tR σ μ (zReader_appendAtom N σ1) (zMod_quantify N (μ.1 8) μ1) (a + 1) := by
  obtain ⟨hx, hn, hl, ⟨ha, hma, h0, h1⟩, ⟨hs0, hw⟩, -, hB1, hB2, hB3, hB4, hB5⟩ := hS
  obtain ⟨N1, N2, N3, N4, N5, N6, N7, N8⟩ := id hn.2.2.2.2.2
  obtain ⟨T1, T2⟩ := tLeaf hn hl hs hs2 hs1 hm hm2 hm1 ⟨hk.1, by omega⟩ hpt hbk hbk2
  obtain ⟨gn0, gn1, gn2, gn6, gn7⟩ := Gx_n (G := G) (n := μ.1 8) (p := σ.1 4) (w := 1) (f := 0) (l := μ.1 14 + 1)
  obtain ⟨c4, c6, c7, c8, c14, c15, c16⟩ := hs1
  obtain ⟨m8, m9, m14, m10⟩ := hm1
  obtain ⟨x11, x12, x13, x19, x20, x21⟩ := hsx
  obtain ⟨y11, y12, y10, y9, y10b⟩ := hmx
  have hpx : pex μ1 (Gx G (μ.1 8) (σ.1 4) 1 0 (μ.1 14 + 1) 0) (μ.1 8) = σ.1 4 := by unfold pex; rw [if_neg (by omega), gn0]
  have hS1 : pS σ1 μ1 (Gx G (μ.1 8) (σ.1 4) 1 0 (μ.1 14 + 1)) b 1 := by
    refine ⟨xL_mv hx x11 (fC.2 0 (by simp)) (fM.1 2 (by simp)) (fM.2 1 (by simp)), T1, T2, ⟨x12, y11, by omega, by rw [fM.1 2 (by simp)]; exact hb2⟩, ⟨x13, y12⟩, hpm, ?_⟩
    unfold pB
    omega
  exact tR_tr (zAtom hN hS1 (by omega) (by omega) (Or.inl hk) (by rw [gn7]; omega) (by rw [gn2, m14]) (by omega) (by rw [gn0]; exact x19) (by rw [hpx]; exact x20) (by rw [y10b, x21]; exact N5) (by rw [y10b]; exact ⟨N6, N7⟩)) fC fM x11 hb
theorem zAdA {k x y : Int} (h0 : 0 ≤ σ.1 4) (h1 : σ.1 4 < 602) : zReader_addAtom N k x y σ = some (0, zF (zF (zF (cNode σ k x y) 19 (σ.1 4)) 20 (σ.1 4)) 21 (σ.1 8)) := by
  rw [zReader_addAtom_u, cNode_e h0 h1]
  simp only [Option.bind_some]
  rw [zReader_holdAtom_u]
  rfl
/-- an assertion -/
theorem zAsr {a kc km sz : Int} (hS : pS σ μ G a 0) (h19 : σ.1 19 = -1) (hsz : 1 ≤ sz) (hsz2 : a + sz ≤ μ.1 2) (hk : 8 ≤ km ∧ km ≤ 11 ∧ kc = km - 1) : tR σ μ (zReader_addAssertion N kc sz σ) (zMod_assertion N km sz μ) (a + 1) := by
  obtain ⟨hx, hn, hl, ⟨ha, hma, h0, h1⟩, ⟨hs0, hw⟩, ⟨h5, hpm⟩, hB1, hB2, hB3, hB4, hB5⟩ := hS
  have h200 := hx.2.2.1
  obtain ⟨N1, N2, N3, N4, N5, N6, N7, N8⟩ := id hn.2.2.2.2.2
  obtain ⟨⟨d0, d1, d2⟩, -⟩ := id hl
  have c2 := cNode_2 (σ := σ) (k := kc) (x := 0) (y := 0)
  have m2 := mNode_2 (μ := μ) (k := km) (a := 0) (b := 0) (c := 0)
  have k3 : (mNode μ km 0 0 0).2 3 (μ.1 8).toNat = km := by rw [m2, if_pos rfl]; rfl
  have k9 : (mNode μ km 0 0 0).2 9 (μ.1 8).toNat = -1 := by rw [m2, if_pos rfl]; rfl
  have k1 : (cNode σ kc 0 0).2 1 (σ.1 4).toNat = kc := by rw [c2, if_pos rfl]; rfl
  obtain ⟨T1, T2⟩ := tLeaf (σ' := cNode σ kc 0 0) (μ' := mNode μ km 0 0 0) hn hl (fun j i _ _ hi => by rw [c2, if_neg hi]) (fun j j1 j2 => cNode_fr.2 j (by simp; omega)) ⟨rfl, rfl, rfl, rfl, rfl, rfl, rfl⟩ (fun j i _ _ hi => by rw [m2, if_neg hi]) (fun j j1 j2 => mNode_fr.2 j (by simp; omega)) ⟨rfl, rfl, rfl, Int.le_refl _⟩ (by rw [k3]; omega) (by
    unfold pTest
    rw [k3]
    refine ⟨fun q => by omega, fun q => by omega, fun q => by omega, fun q => by omega, fun q => by omega, fun q => ?_, fun q => ?_, fun q => ?_, fun q => ?_⟩ <;> (rw [k1]; omega)) (by rw [k3]; omega) (by rw [k1]; omega)
  obtain ⟨gn0, gn1, gn2, gn6, gn7⟩ := Gx_n (G := G) (n := μ.1 8) (p := σ.1 4) (w := 1) (f := 0) (l := μ.1 14 + 1)
  have hS1 : pS (cNode σ kc 0 0) (mNode μ km 0 0 0) (Gx G (μ.1 8) (σ.1 4) 1 0 (μ.1 14 + 1)) a (-1) := by
    refine ⟨xL_mv hx rfl (cNode_fr.2 0 (by simp)) rfl (mNode_fr.2 1 (by simp)), T1, T2, ⟨ha, hma, h0, h1⟩, ⟨hs0, hw⟩, ⟨h5, fun i hi => ?_⟩, ?_⟩
    · have := hpm i hi
      unfold pMem at this ⊢
      rw [cNode_fr.2 5 (by simp), cNode_fr.2 6 (by simp), mNode_fr.2 12 (by simp), mNode_fr.2 13 (by simp)]; exact this
    · unfold pB
      show σ.1 4 + 1 + -1 ≤ _ ∧ μ.1 8 + 1 + -1 ≤ _ ∧ 2 * σ.1 6 + -1 ≤ _ ∧ 4 * σ.1 7 ≤ a + μ.1 14 ∧ μ.1 10 ≤ a
      show σ.1 4 + 1 + -1 ≤ 2 * a + 2 + μ.1 14 ∧ μ.1 8 + 1 + -1 ≤ 2 * a + 2 + μ.1 14 ∧ 2 * σ.1 6 + -1 ≤ a ∧ 4 * σ.1 7 ≤ a + μ.1 14 ∧ μ.1 10 ≤ a
      omega
  have hpx : pex (mNode μ km 0 0 0) (Gx G (μ.1 8) (σ.1 4) 1 0 (μ.1 14 + 1) 0) (μ.1 8) = σ.1 4 := by unfold pex; rw [k3, if_neg (by omega), gn0]
  -- as above, at the place behind
  have hS2 : pS (zF (cNode σ kc 0 0) 12 (a + sz)) (zF (mNode μ km 0 0 0) 11 (a + sz)) (Gx G (μ.1 8) (σ.1 4) 1 0 (μ.1 14 + 1)) (a + sz) 0 := pS_mv hS1 (zfr_F zfr_rf (by simp)) (zfr_F zfr_rf (by simp)) rfl rfl (by omega) hsz2 (by omega)
  obtain ⟨a1, a2, a3, a4⟩ := pS_app (N := N) hS2 (by omega) (t := μ.1 8) (by omega) (by show μ.1 8 < μ.1 8 + 1; omega) (by show 3 ≤ (mNode μ km 0 0 0).2 3 _; rw [k3]; omega) (by rw [gn7]; omega) gn2 (by show (mNode μ km 0 0 0).2 9 _ < 0; rw [k9]; omega)
  have hpx2 : pex (zF (mNode μ km 0 0 0) 11 (a + sz)) (Gx G (μ.1 8) (σ.1 4) 1 0 (μ.1 14 + 1) 0) (μ.1 8) = σ.1 4 := hpx
  rw [gn0, hpx2] at a1 a4
  obtain ⟨-, hlv, -, -, c16⟩ := id hl
  have hL := hlv (μ.1 14) d0 (Int.le_refl _)
  obtain ⟨q0, q1, q2, q3⟩ := qN_bd hL
  have hnq := hn.1 _ q0 q1
  have q2k : 2 ≤ μ.2 3 (qN μ (μ.1 14)).toNat := by
    rcases q3 with e | e
    · omega
    · have := (hnq.2.2.2.2.1 e).1.1.1; omega
  have hb := en_bd hnq q2k
  rw [← c16] at hb
  have h16 : (zF (mNode μ km 0 0 0) 11 (a + sz)).2 16 ((zF (mNode μ km 0 0 0) 11 (a + sz)).1 14).toNat = μ.2 16 (μ.1 14).toNat := by
    show (mNode μ km 0 0 0).2 16 (μ.1 14).toNat = _
    rw [mNode_fr.2 16 (by simp)]
  rw [h16] at a4
  have e1 : zF (zA (zF (cNode σ kc 0 0) 12 (a + sz)) 2 ((zF (cNode σ kc 0 0) 12 (a + sz)).1 16).toNat (σ.1 4)) 16 (σ.1 4) = zF (zF (zA (cNode σ kc 0 0) 2 (σ.1 16).toNat (σ.1 4)) 16 (σ.1 4)) 12 (a + sz) := by
    rw [zF_swap (by decide)]; rfl
  have e2 : mAdd (zF (mNode μ km 0 0 0) 11 (a + sz)) (μ.2 16 (μ.1 14).toNat) (μ.1 8) = zF (mAdd (mNode μ km 0 0 0) (μ.2 16 (μ.1 14).toNat) (μ.1 8)) 11 (a + sz) := by
    unfold mAdd
    show zA (if (mNode μ km 0 0 0).2 7 (μ.2 16 (μ.1 14).toNat).toNat < 0 then _ else _) 8 _ _ = _
    split <;> rfl
  rw [e1, e2] at a4
  refine ⟨0, 0, zF (zF (zA (cNode σ kc 0 0) 2 (σ.1 16).toNat (σ.1 4)) 16 (σ.1 4)) 12 (a + sz), zF (mAdd (mNode μ km 0 0 0) (μ.2 16 (μ.1 14).toNat) (μ.1 8)) 11 (a + sz), ?_, ?_, zfr_F (zfr_F (zfr_A (zfr_up cNode_fr (by simp) (by simp)) (by simp)) (by simp)) (by simp), zfr_F (zfr_tr (zfr_up mNode_fr (by simp) (by simp)) fPM_add) (by simp), Or.inl ⟨_, a + sz, a4, by omega, h19⟩⟩
  · rw [zReader_addAssertion_u, cNode_e (by omega) (by omega)]
    simp only [Option.bind_some]
    rw [zReader_append_u, show (cNode σ kc 0 0).1 16 = σ.1 16 from rfl, cLink_e hb.2.2.1 (by omega)]
    simp only [Option.bind_some]
    rw [show (zF (zA (cNode σ kc 0 0) 2 (σ.1 16).toNat (σ.1 4)) 16 (σ.1 4)).1 12 = a from ha, if_pos (show zin (a + sz) from ⟨by omega, by omega⟩)]
  · rw [zMod_assertion_u, if_pos (show zIn (μ.1 14) 41 from ⟨d0, by omega⟩), mNode_e (by omega) (by omega)]
    simp only [Option.bind_some]
    rw [mAdd_e hL.1.1 (by have := hL.1.2.1; omega) (fun z => ?_)]
    · simp only [Option.bind_some]
      rw [show (mAdd (mNode μ km 0 0 0) (μ.2 16 (μ.1 14).toNat) (μ.1 8)).1 11 = a by rw [mAdd_1]; exact hma, if_pos (show zin (a + sz) from ⟨by omega, by omega⟩)]
    · have hA := hL.1
      rw [m2, if_neg (by omega)] at z
      rw [m2, if_neg (by omega)]
      rcases hL.2.2.1 with l | l
      · omega
      · exact ⟨l.2.1, by have := l.2.2.1; omega⟩
end TE
