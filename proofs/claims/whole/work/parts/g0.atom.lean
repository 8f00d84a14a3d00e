/-! what both readers hold between two terms -/
abbrev fPC (σ σ' : z_S) : Prop := zfr [4, 5, 6, 7, 8, 11, 12, 13, 14, 15, 16, 17, 18, 19, 20, 21] [1, 2, 3, 4, 5, 6, 7, 8, 9, 10, 11, 12, 13, 14, 15, 16] σ σ'
abbrev fPM (μ μ' : z_S) : Prop := zfr [8, 9, 10, 11, 12, 13, 14] [3, 4, 5, 6, 7, 8, 9, 10, 11, 12, 13, 14, 15, 16] μ μ'
def pB (σ μ : z_S) (b k : Int) : Prop := σ.1 4 + k ≤ 2 * b + 2 + μ.1 14 ∧ μ.1 8 + k ≤ 2 * b + 2 + μ.1 14 ∧ 2 * σ.1 6 + k ≤ b ∧ 4 * σ.1 7 ≤ b + μ.1 14 ∧ μ.1 10 ≤ b
/-- both, at the unit b -/
def pS (σ μ : z_S) (G : Nat → Int → Int) (b k : Int) : Prop := xL σ μ ∧ pTn σ μ G ∧ pTl σ μ G ∧ (σ.1 12 = b ∧ μ.1 11 = b ∧ 0 ≤ b ∧ b ≤ μ.1 2) ∧ (σ.1 13 = -1 ∧ μ.1 12 = -1) ∧ (σ.1 5 = μ.1 10 ∧ ∀ i : Nat, (i : Int) < μ.1 10 → pMem σ μ i) ∧ pB σ μ b k
/-- only these count for the tree -/
def cutE (σ : z_S) : z_S := (fun k => if k = 4 ∨ k = 6 ∨ k = 7 ∨ k = 8 ∨ k = 14 ∨ k = 15 ∨ k = 16 then σ.1 k else 0, fun j => if (1 ≤ j ∧ j ≤ 4) ∨ (7 ≤ j ∧ j ≤ 16) then σ.2 j else fun _ => 0)
def cutP (μ : z_S) : z_S := (fun k => if k = 8 ∨ k = 9 ∨ k = 10 ∨ k = 14 then μ.1 k else 0, fun j => if (3 ≤ j ∧ j ≤ 11) ∨ (14 ≤ j ∧ j ≤ 16) then μ.2 j else fun _ => 0)
theorem pTn_cut (σ μ : z_S) (G : Nat → Int → Int) : pTn (cutE σ) (cutP μ) G = pTn σ μ G := rfl
theorem pTl_cut (σ μ : z_S) (G : Nat → Int → Int) : pTl (cutE σ) (cutP μ) G = pTl σ μ G := rfl
theorem cutE_fr {σ σ' : z_S} {ks js : List Nat} (h : zfr ks js σ σ') (h1 : ∀ k ∈ ks, ¬ (k = 4 ∨ k = 6 ∨ k = 7 ∨ k = 8 ∨ k = 14 ∨ k = 15 ∨ k = 16)) (h2 : ∀ j ∈ js, ¬ ((1 ≤ j ∧ j ≤ 4) ∨ (7 ≤ j ∧ j ≤ 16))) : cutE σ' = cutE σ := by
  refine Prod.ext (funext fun k => ?_) (funext fun j => ?_)
  · show (if _ then σ'.1 k else 0) = if _ then σ.1 k else 0
    by_cases q : k = 4 ∨ k = 6 ∨ k = 7 ∨ k = 8 ∨ k = 14 ∨ k = 15 ∨ k = 16
    · rw [if_pos q, if_pos q]; exact h.1 k (fun z => h1 k z q)
    · rw [if_neg q, if_neg q]
  · show (if _ then σ'.2 j else fun _ => 0) = if _ then σ.2 j else fun _ => 0
    by_cases q : (1 ≤ j ∧ j ≤ 4) ∨ (7 ≤ j ∧ j ≤ 16)
    · rw [if_pos q, if_pos q]; exact h.2 j (fun z => h2 j z q)
    · rw [if_neg q, if_neg q]
theorem cutP_fr {σ σ' : z_S} {ks js : List Nat} (h : zfr ks js σ σ') (h1 : ∀ k ∈ ks, ¬ (k = 8 ∨ k = 9 ∨ k = 10 ∨ k = 14)) (h2 : ∀ j ∈ js, ¬ ((3 ≤ j ∧ j ≤ 11) ∨ (14 ≤ j ∧ j ≤ 16))) : cutP σ' = cutP σ := by
  refine Prod.ext (funext fun k => ?_) (funext fun j => ?_)
  · show (if _ then σ'.1 k else 0) = if _ then σ.1 k else 0
    by_cases q : k = 8 ∨ k = 9 ∨ k = 10 ∨ k = 14
    · rw [if_pos q, if_pos q]; exact h.1 k (fun z => h1 k z q)
    · rw [if_neg q, if_neg q]
  · show (if _ then σ'.2 j else fun _ => 0) = if _ then σ.2 j else fun _ => 0
    by_cases q : (3 ≤ j ∧ j ≤ 11) ∨ (14 ≤ j ∧ j ≤ 16)
    · rw [if_pos q, if_pos q]; exact h.2 j (fun z => h2 j z q)
    · rw [if_neg q, if_neg q]
theorem pT_mv {σ σ' μ μ' : z_S} {G : Nat → Int → Int} (hc : cutE σ' = cutE σ) (hm : cutP μ' = cutP μ) (h1 : pTn σ μ G) (h2 : pTl σ μ G) : pTn σ' μ' G ∧ pTl σ' μ' G := by
  constructor
  · rw [← pTn_cut, hc, hm, pTn_cut]; exact h1
  · rw [← pTl_cut, hc, hm, pTl_cut]; exact h2
/-- what a term comes to -/
def tR (σ μ : z_S) (X Y : Option (Int × z_S)) (b : Int) : Prop := ∃ x y σ' μ', X = some (x, σ') ∧ Y = some (y, μ') ∧ fPC σ σ' ∧ fPM μ μ' ∧
  ((∃ G' b', pS σ' μ' G' b' 0 ∧ b ≤ b' ∧ σ'.1 19 = -1) ∨ (0 ≤ σ'.1 13 ∧ μ'.1 12 = σ'.1 13 ∧ 0 ≤ μ'.1 8 ∧ μ'.1 8 ≤ 1300 ∧ σ'.1 11 = σ.1 11))
section AT
variable {N : Nat} {σ μ : z_S} {G : Nat → Int → Int}
theorem mAdd_e {a t : Int} (h0 : 0 ≤ a) (h1 : a < 1300) (h2 : 0 ≤ μ.2 7 a.toNat → 0 ≤ μ.2 8 a.toNat ∧ μ.2 8 a.toNat < 1300) : zMod_add N a t μ = some (0, mAdd μ a t) := by
  have i1 : zIn a 1300 := ⟨h0, by omega⟩
  rw [zMod_add_u, if_pos i1]
  unfold mAdd
  by_cases c : 0 ≤ μ.2 7 a.toNat
  · have := h2 c
    rw [if_pos c, if_pos i1, if_pos (show zIn (μ.2 8 a.toNat) 1300 from ⟨this.1, by omega⟩), if_pos i1, if_neg (by omega)]
  · rw [if_neg c, if_pos i1, if_pos i1, if_pos (by omega)]
theorem mAdd_fr {a t : Int} : zfr [] [7, 8, 9] μ (mAdd μ a t) := by
  unfold mAdd
  refine zfr_A ?_ (by simp)
  split
  · exact zfr_A zfr_rf (by simp)
  · exact zfr_A zfr_rf (by simp)
/-- the term behind the last, for both -/
theorem zApp (hn : pTn σ μ G) (hl : pTl σ μ G) {t : Int} (t0 : 0 ≤ t) (t1 : t < μ.1 8) (tk : 3 ≤ μ.2 3 t.toNat) (t7 : G 7 t ≠ 1) (tlv : G 2 t = μ.1 14 + 1) (tb : μ.2 9 t.toNat < 0) (h4 : σ.1 4 ≤ 602) (h8 : μ.1 8 ≤ 1300) :
    zReader_append N (G 0 t) (pex μ (G 0) t) σ = some (0, zF (zA σ 2 (σ.1 16).toNat (G 0 t)) 16 (pex μ (G 0) t)) ∧ zMod_add N (μ.2 16 (μ.1 14).toNat) t μ = some (0, mAdd μ (μ.2 16 (μ.1 14).toNat) t) ∧ zIn (μ.1 14) 41 ∧
    pTn (zF (zA σ 2 (σ.1 16).toNat (G 0 t)) 16 (pex μ (G 0) t)) (mAdd μ (μ.2 16 (μ.1 14).toNat) t) (Ga G t (G 1 (μ.2 16 (μ.1 14).toNat))) ∧ pTl (zF (zA σ 2 (σ.1 16).toNat (G 0 t)) 16 (pex μ (G 0) t)) (mAdd μ (μ.2 16 (μ.1 14).toNat) t) (Ga G t (G 1 (μ.2 16 (μ.1 14).toNat))) := by
  obtain ⟨⟨d0, d1, d2⟩, hlv, hst, c15, c16⟩ := id hl
  have hL := hlv (μ.1 14) d0 (Int.le_refl _)
  obtain ⟨q0, q1, q2, q3⟩ := qN_bd hL
  have hnq := hn.1 _ q0 q1
  have q2k : 2 ≤ μ.2 3 (qN μ (μ.1 14)).toNat := by
    rcases q3 with e | e
    · omega
    · have := (hnq.2.2.2.2.1 e).1.1.1; omega
  have hb := en_bd hnq q2k
  rw [← c16] at hb
  refine ⟨?_, mAdd_e hL.1.1 (by have := hL.1.2.1; omega) (fun z => ?_), ⟨d0, by omega⟩, tApp hn hl t0 t1 tk t7 tlv tb⟩
  · rw [zReader_append_u, cLink_e hb.2.2.1 (by omega)]; rfl
  · rcases hL.2.2.1 with l | l
    · omega
    · exact ⟨l.2.1, by have := l.2.2.1; omega⟩
/-- the place moves on -/
theorem pS_mv {σ' μ' : z_S} {b b' k k' : Int} (h : pS σ μ G b k) (hc : zfr [12, 17, 18, 19, 20, 21] [] σ σ') (hm : zfr [11, 13] [] μ μ') (h1 : σ'.1 12 = b') (h2 : μ'.1 11 = b') (hb : b ≤ b') (hb2 : b' ≤ μ.1 2) (hk : k' ≤ k + (b' - b)) : pS σ' μ' G b' k' := by
  obtain ⟨hx, hn, hl, ⟨ha, hma, h0, hb1⟩, ⟨hs, hw⟩, ⟨h5, hpm⟩, hB1, hB2, hB3, hB4, hB5⟩ := h
  obtain ⟨t1, t2⟩ := pT_mv (cutE_fr hc (by simp) (by simp)) (cutP_fr hm (by simp) (by simp)) hn hl
  refine ⟨xL_mv hx (hc.1 11 (by simp)) (hc.2 0 (by simp)) (hm.1 2 (by simp)) (hm.2 1 (by simp)), t1, t2, ⟨h1, h2, by omega, by rw [hm.1 2 (by simp)]; exact hb2⟩, ⟨by rw [hc.1 13 (by simp)]; exact hs, by rw [hm.1 12 (by simp)]; exact hw⟩, ⟨by rw [hc.1 5 (by simp), hm.1 10 (by simp)]; exact h5, fun i hi => ?_⟩, ?_⟩
  · rw [hm.1 10 (by simp)] at hi
    have := hpm i hi
    unfold pMem at this ⊢
    rw [hc.2 5 (by simp), hc.2 6 (by simp), hm.2 12 (by simp), hm.2 13 (by simp)]; exact this
  · unfold pB
    rw [hc.1 4 (by simp), hc.1 6 (by simp), hc.1 7 (by simp), hm.1 8 (by simp), hm.1 10 (by simp), hm.1 14 (by simp)]
    omega
/-- the term behind the last -/
theorem pS_app {b k t : Int} (hS : pS σ μ G b k) (hk0 : 0 ≤ k) (t0 : 0 ≤ t) (t1 : t < μ.1 8) (tk : 3 ≤ μ.2 3 t.toNat) (t7 : G 7 t ≠ 1) (tlv : G 2 t = μ.1 14 + 1) (tb : μ.2 9 t.toNat < 0) :
    zReader_append N (G 0 t) (pex μ (G 0) t) σ = some (0, zF (zA σ 2 (σ.1 16).toNat (G 0 t)) 16 (pex μ (G 0) t)) ∧ zMod_add N (μ.2 16 (μ.1 14).toNat) t μ = some (0, mAdd μ (μ.2 16 (μ.1 14).toNat) t) ∧ zIn (μ.1 14) 41 ∧
    pS (zF (zA σ 2 (σ.1 16).toNat (G 0 t)) 16 (pex μ (G 0) t)) (mAdd μ (μ.2 16 (μ.1 14).toNat) t) (Ga G t (G 1 (μ.2 16 (μ.1 14).toNat))) b k := by
  obtain ⟨hx, hn, hl, ⟨ha, hm, h0, h1⟩, ⟨hs, hw⟩, ⟨h5, hpm⟩, hB⟩ := hS
  have h200 := hx.2.2.1
  obtain ⟨⟨d0, d1, d2⟩, -⟩ := id hl
  obtain ⟨a1, a2, a3, a4, a5⟩ := zApp (N := N) hn hl t0 t1 tk t7 tlv tb (by have := hB.1; omega) (by have := hB.2.1; omega)
  refine ⟨a1, a2, a3, xL_mv hx rfl rfl (congrFun mAdd_1 2) (mAdd_fr.2 1 (by simp)), a4, a5, ⟨ha, by rw [mAdd_1]; exact hm, h0, by rw [mAdd_1]; exact h1⟩, ⟨hs, by rw [mAdd_1]; exact hw⟩, ⟨by rw [mAdd_1]; exact h5, fun i hi => ?_⟩, ?_⟩
  · rw [mAdd_1] at hi
    have := hpm i hi
    unfold pMem at this ⊢
    rw [mAdd_fr.2 12 (by simp), mAdd_fr.2 13 (by simp)]; exact this
  · unfold pB at hB ⊢
    rw [mAdd_1]
    exact hB
theorem fPC_app {x y : Int} {i : Nat} : fPC σ (zF (zA σ 2 i x) 16 y) := zfr_F (zfr_A zfr_rf (by simp)) (by simp)
theorem fPM_add {a t : Int} : fPM μ (mAdd μ a t) := zfr_up mAdd_fr (by simp) (by simp)
/-- the reference's row of a repetition, made at the end of a quantifier -/
def mRep (μ : z_S) (t lo hi lz : Int) : z_S := mAdd (zA (zA (mNode μ 16 lo hi lz) 10 (μ.1 8).toNat (μ.2 10 t.toNat)) 11 (μ.1 8).toNat (μ.1 9)) (μ.1 8) t
theorem q269 (hx : xL σ μ) {t lo hi : Int} (h0 : 0 ≤ μ.1 11) (h1 : μ.1 11 ≤ 500) (h8 : 0 ≤ μ.1 8) (h81 : μ.1 8 < 1300) (t0 : 0 ≤ t) (t1 : t < μ.1 8) :
    zMod_quantify_b269 N t lo hi μ = zMod_quantify_b350 N (μ.1 8) (mRep (if uA μ (μ.1 11) = 63 then zF μ 11 (μ.1 11 + 1) else μ) t lo hi (if uA μ (μ.1 11) = 63 then 1 else 0)) := by
  have b318 : ∀ (τ : z_S) (lz : Int), τ.1 8 = μ.1 8 → τ.2 10 = μ.2 10 → τ.1 9 = μ.1 9 → zMod_quantify_b318 N t 16 lo hi lz τ = zMod_quantify_b350 N (μ.1 8) (mRep τ t lo hi lz) := fun τ lz e1 e2 e3 => by
    unfold zMod_quantify_b318
    rw [mNode_e (by omega) (by omega)]
    simp only [Option.bind_some]
    rw [if_pos (show zIn t 1300 from ⟨t0, by omega⟩), if_pos (show zIn (τ.1 8) 1300 from ⟨by omega, by omega⟩)]
    have e10 : (mNode τ 16 lo hi lz).2 10 t.toNat = τ.2 10 t.toNat := by rw [mNode_2, if_neg (by omega)]
    have e9 : (mNode τ 16 lo hi lz).1 9 = τ.1 9 := rfl
    rw [e10, e9, mAdd_e (by omega) (by omega) (fun z => ?_)]
    · simp only [Option.bind_some]
      rw [e1]
      unfold mRep
      rw [e1]
    · exfalso
      have : (zA (zA (mNode τ 16 lo hi lz) 10 (τ.1 8).toNat (τ.2 10 t.toNat)) 11 (τ.1 8).toNat (τ.1 9)).2 7 (τ.1 8).toNat = -1 := by
        show (mNode τ 16 lo hi lz).2 7 (τ.1 8).toNat = -1
        rw [mNode_2, if_pos rfl]; rfl
      omega
  unfold zMod_quantify_b269
  rw [zse hx 0 (by omega) (by omega), Int.add_zero]
  simp only [Option.bind_some]
  by_cases c : uA μ (μ.1 11) = 63
  · rw [if_pos c, if_pos c, if_pos c]
    unfold zMod_quantify_b279 zMod_quantify_b284 zMod_quantify_b291 zMod_quantify_b301 zMod_quantify_b313
    rw [if_neg (by decide), if_pos (show zin (μ.1 11 + 1) from ⟨by omega, by omega⟩), if_neg (by decide), b318 _ 1 (by rfl) (by rfl) (by rfl)]
  · rw [if_neg c, if_neg c, if_neg c]
    unfold zMod_quantify_b283 zMod_quantify_b284 zMod_quantify_b301 zMod_quantify_b317
    rw [if_pos rfl, if_pos rfl, b318 _ 0 (by rfl) (by rfl) (by rfl)]
theorem mRep_1 {t lo hi lz : Int} (j : Nat) : (mRep μ t lo hi lz).1 j = if j = 8 then μ.1 8 + 1 else μ.1 j := by
  unfold mRep
  rw [mAdd_1]
  rfl
theorem mRep_fr {t lo hi lz : Int} : zfr [8] [3, 4, 5, 6, 7, 8, 9, 10, 11] μ (mRep μ t lo hi lz) := by
  unfold mRep
  exact zfr_tr (zfr_A (zfr_A mNode_fr (by simp)) (by simp)) (zfr_up mAdd_fr (by simp) (by simp))
end AT
