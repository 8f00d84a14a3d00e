/-! nodes made, links made -/
def cNode (σ : z_S) (k x y : Int) : z_S := zF (zA (zA (zA (zA σ 1 (σ.1 4).toNat k) 2 (σ.1 4).toNat 0) 3 (σ.1 4).toNat x) 4 (σ.1 4).toNat y) 4 (σ.1 4 + 1)
theorem cNode_e {N : Nat} {σ : z_S} {k x y : Int} (h0 : 0 ≤ σ.1 4) (h1 : σ.1 4 < 602) : zProgram_addNode N k x y σ = some (σ.1 4, cNode σ k x y) := by
  rw [zProgram_addNode_u, if_neg (by omega), if_neg (by omega), if_pos (show zIn (σ.1 4) 602 from ⟨h0, by omega⟩), if_pos (show zin (σ.1 4 + 1) from ⟨by omega, by omega⟩)]
  rfl
theorem cNode_2 {σ : z_S} {k x y : Int} (j i : Nat) : (cNode σ k x y).2 j i = if i = (σ.1 4).toNat then (if j = 1 then k else if j = 2 then 0 else if j = 3 then x else if j = 4 then y else σ.2 j i) else σ.2 j i := by
  show (zA (zA (zA (zA σ 1 (σ.1 4).toNat k) 2 (σ.1 4).toNat 0) 3 (σ.1 4).toNat x) 4 (σ.1 4).toNat y).2 j i = _
  by_cases e1 : j = 1
  · subst e1; simp [zA_2, zupd_e]
  · by_cases e2 : j = 2
    · subst e2; simp [zA_2, zupd_e]
    · by_cases e3 : j = 3
      · subst e3; simp [zA_2, zupd_e]
      · by_cases e4 : j = 4
        · subst e4; simp [zA_2, zupd_e]
        · simp [zA_2, e1, e2, e3, e4]
theorem cNode_1 {σ : z_S} {k x y : Int} (j : Nat) : (cNode σ k x y).1 j = if j = 4 then σ.1 4 + 1 else σ.1 j := rfl
theorem cNode_fr {σ : z_S} {k x y : Int} : zfr [4] [1, 2, 3, 4] σ (cNode σ k x y) := zfr_F (zfr_A (zfr_A (zfr_A (zfr_A zfr_rf (by simp)) (by simp)) (by simp)) (by simp)) (by simp)
theorem cLink_e {N : Nat} {σ : z_S} {a b : Int} (h0 : 0 ≤ a) (h1 : a < 602) : zProgram_link N a b σ = some (0, zA σ 2 a.toNat b) := by
  rw [zProgram_link_u, zrw (by decide) h0 (by show a < (602 : Int); omega)]; rfl
def mNode (μ : z_S) (k a b c : Int) : z_S := zF (zA (zA (zA (zA (zA (zA (zA (zA (zA μ 3 (μ.1 8).toNat k) 4 (μ.1 8).toNat a) 5 (μ.1 8).toNat b) 6 (μ.1 8).toNat c) 7 (μ.1 8).toNat (-1)) 8 (μ.1 8).toNat (-1)) 9 (μ.1 8).toNat (-1)) 10 (μ.1 8).toNat (μ.1 9)) 11 (μ.1 8).toNat (μ.1 9)) 8 (μ.1 8 + 1)
theorem mNode_e {N : Nat} {μ : z_S} {k a b c : Int} (h0 : 0 ≤ μ.1 8) (h1 : μ.1 8 < 1300) : zMod_node N k a b c μ = some (μ.1 8, mNode μ k a b c) := by
  rw [zMod_node_u, if_pos (show zIn (μ.1 8) 1300 from ⟨h0, by omega⟩), if_pos (show zin (μ.1 8 + 1) from ⟨by omega, by omega⟩), if_pos (show zin (μ.1 8 + 1 - 1) from ⟨by omega, by omega⟩), show μ.1 8 + 1 - 1 = μ.1 8 by omega]
  rfl
theorem mNode_1 {μ : z_S} {k a b c : Int} (j : Nat) : (mNode μ k a b c).1 j = if j = 8 then μ.1 8 + 1 else μ.1 j := rfl
theorem mNode_2 {μ : z_S} {k a b c : Int} (j i : Nat) : (mNode μ k a b c).2 j i = if i = (μ.1 8).toNat then (if j = 3 then k else if j = 4 then a else if j = 5 then b else if j = 6 then c else if j = 7 then -1 else if j = 8 then -1 else if j = 9 then -1 else if j = 10 then μ.1 9 else if j = 11 then μ.1 9 else μ.2 j i) else μ.2 j i := by
  have h : (mNode μ k a b c).2 j = if j = 11 then zupd (μ.2 11) (μ.1 8).toNat (μ.1 9) else if j = 10 then zupd (μ.2 10) (μ.1 8).toNat (μ.1 9) else if j = 9 then zupd (μ.2 9) (μ.1 8).toNat (-1) else if j = 8 then zupd (μ.2 8) (μ.1 8).toNat (-1) else if j = 7 then zupd (μ.2 7) (μ.1 8).toNat (-1) else if j = 6 then zupd (μ.2 6) (μ.1 8).toNat c else if j = 5 then zupd (μ.2 5) (μ.1 8).toNat b else if j = 4 then zupd (μ.2 4) (μ.1 8).toNat a else if j = 3 then zupd (μ.2 3) (μ.1 8).toNat k else μ.2 j := by
    unfold mNode
    simp only [zF_2, zA_2, zA_1]
    rfl
  rw [h]
  by_cases e : i = (μ.1 8).toNat
  · rw [if_pos e, e]
    by_cases e3 : j = 3
    · subst e3; simp [zupd_s]
    · by_cases e4 : j = 4
      · subst e4; simp [zupd_s]
      · by_cases e5 : j = 5
        · subst e5; simp [zupd_s]
        · by_cases e6 : j = 6
          · subst e6; simp [zupd_s]
          · by_cases e7 : j = 7
            · subst e7; simp [zupd_s]
            · by_cases e8 : j = 8
              · subst e8; simp [zupd_s]
              · by_cases e9 : j = 9
                · subst e9; simp [zupd_s]
                · by_cases e10 : j = 10
                  · subst e10; simp [zupd_s]
                  · by_cases e11 : j = 11
                    · subst e11; simp [zupd_s]
                    · simp [e3, e4, e5, e6, e7, e8, e9, e10, e11]
  · rw [if_neg e]
    have hz : ∀ (f : Nat → Int) (v : Int), zupd f (μ.1 8).toNat v i = f i := fun f v => zupd_n e
    by_cases e3 : j = 3
    · subst e3; simp [hz]
    · by_cases e4 : j = 4
      · subst e4; simp [hz]
      · by_cases e5 : j = 5
        · subst e5; simp [hz]
        · by_cases e6 : j = 6
          · subst e6; simp [hz]
          · by_cases e7 : j = 7
            · subst e7; simp [hz]
            · by_cases e8 : j = 8
              · subst e8; simp [hz]
              · by_cases e9 : j = 9
                · subst e9; simp [hz]
                · by_cases e10 : j = 10
                  · subst e10; simp [hz]
                  · by_cases e11 : j = 11
                    · subst e11; simp [hz]
                    · simp [e3, e4, e5, e6, e7, e8, e9, e10, e11]
theorem mNode_fr {μ : z_S} {k a b c : Int} : zfr [8] [3, 4, 5, 6, 7, 8, 9, 10, 11] μ (mNode μ k a b c) := by
  unfold mNode
  refine zfr_F (zfr_A (zfr_A (zfr_A (zfr_A (zfr_A (zfr_A (zfr_A (zfr_A (zfr_A zfr_rf ?_) ?_) ?_) ?_) ?_) ?_) ?_) ?_) ?_) ?_ <;> simp
/-- level j -/
def lvl (μ : z_S) (G : Nat → Int → Int) (j : Int) : Prop :=
  (0 ≤ μ.2 16 j.toNat ∧ μ.2 16 j.toNat < μ.1 8 ∧ μ.2 3 (μ.2 16 j.toNat).toNat = 2 ∧ G 2 (μ.2 16 j.toNat) = j + 1 ∧ μ.2 9 (μ.2 16 j.toNat).toNat < 0) ∧
  (0 ≤ μ.2 15 j.toNat ∧ μ.2 15 j.toNat < μ.1 8 ∧ μ.2 3 (μ.2 15 j.toNat).toNat = 1 ∧ μ.2 8 (μ.2 15 j.toNat).toNat = μ.2 16 j.toNat ∧ 0 ≤ μ.2 7 (μ.2 15 j.toNat).toNat) ∧
  ((μ.2 7 (μ.2 16 j.toNat).toNat < 0 ∧ μ.2 8 (μ.2 16 j.toNat).toNat < 0) ∨ (0 ≤ μ.2 7 (μ.2 16 j.toNat).toNat ∧ 0 ≤ μ.2 8 (μ.2 16 j.toNat).toNat ∧ μ.2 8 (μ.2 16 j.toNat).toNat < μ.1 8 ∧ G 6 (μ.2 8 (μ.2 16 j.toNat).toNat) = 1 ∧
    G 1 (μ.2 8 (μ.2 16 j.toNat).toNat) = G 1 (μ.2 16 j.toNat) ∧ G 2 (μ.2 8 (μ.2 16 j.toNat).toNat) = j + 1 ∧ μ.2 9 (μ.2 8 (μ.2 16 j.toNat).toNat).toNat < 0)) ∧
  (j = 0 → G 1 (μ.2 16 j.toNat) = 0) ∧
  (1 ≤ j → 0 ≤ μ.2 14 j.toNat ∧ μ.2 14 j.toNat < μ.1 8 ∧ 12 ≤ μ.2 3 (μ.2 14 j.toNat).toNat ∧ μ.2 3 (μ.2 14 j.toNat).toNat ≤ 15 ∧ G 2 (μ.2 14 j.toNat) = j ∧ G 1 (μ.2 16 j.toNat) = G 0 (μ.2 14 j.toNat) + 1 ∧ G 7 (μ.2 14 j.toNat) ≠ 1 ∧ μ.2 9 (μ.2 14 j.toNat).toNat < 0)
def stk (σ μ : z_S) (G : Nat → Int → Int) (j : Int) : Prop :=
  σ.2 13 j.toNat = G 0 (μ.2 14 (j + 1).toNat) ∧ σ.2 14 j.toNat = pex μ (G 0) (qN μ j) ∧ σ.2 15 j.toNat = G 0 (μ.2 16 j.toNat) ∧ σ.2 16 j.toNat = μ.2 10 (μ.2 14 (j + 1).toNat).toNat ∧ 0 ≤ μ.2 10 (μ.2 14 (j + 1).toNat).toNat ∧ μ.2 10 (μ.2 14 (j + 1).toNat).toNat ≤ 20
def pEnds (σ μ : z_S) (G : Nat → Int → Int) (p : Int) : Prop := pEnd σ p → (0 ≤ G 2 (G 3 p) ∧ G 2 (G 3 p) ≤ 41 ∧ 0 ≤ G 3 p ∧ G 3 p < μ.1 8) ∧ (0 ≤ σ.2 2 p.toNat ∧ σ.2 2 p.toNat < σ.1 4) ∧ (pEnd σ (σ.2 2 p.toNat) → 0 ≤ G 2 (G 3 (σ.2 2 p.toNat)) ∧ G 2 (G 3 (σ.2 2 p.toNat)) < G 2 (G 3 p))
def pBks (σ μ : z_S) (G : Nat → Int → Int) (p : Int) : Prop := σ.2 1 p.toNat = 6 → 0 ≤ G 3 p ∧ G 3 p < μ.1 8 ∧ μ.2 3 (G 3 p).toNat = 7 ∧ G 0 (G 3 p) = p
/-- the nodes -/
def pTn (σ μ : z_S) (G : Nat → Int → Int) : Prop :=
  (∀ n, 0 ≤ n → n < μ.1 8 → pNq σ μ G n) ∧ (σ.2 1 0 = 0 ∧ μ.2 3 0 = 1 ∧ 0 ≤ μ.2 7 0 ∧ μ.2 7 0 < μ.1 8 ∧ μ.2 3 (μ.2 7 0).toNat = 2 ∧ G 0 (μ.2 7 0) = 1 ∧ G 1 (μ.2 7 0) = 0 ∧ G 2 (μ.2 7 0) = 1) ∧
  (∀ p, 0 ≤ p → p < σ.1 4 → pEnds σ μ G p) ∧ (∀ p, 0 ≤ p → p < σ.1 4 → pBks σ μ G p) ∧ (∀ n m, 0 ≤ n → n < m → m < μ.1 8 → μ.2 3 n.toNat = 7 → μ.2 3 m.toNat = 7 → G 0 n < G 0 m) ∧
  (1 ≤ μ.1 8 ∧ 2 ≤ σ.1 4 ∧ 0 ≤ σ.1 6 ∧ 0 ≤ σ.1 7 ∧ σ.1 8 = μ.1 9 ∧ 0 ≤ μ.1 9 ∧ μ.1 9 ≤ 20 ∧ 0 ≤ μ.1 10)
/-- the levels -/
def pTl (σ μ : z_S) (G : Nat → Int → Int) : Prop :=
  (0 ≤ μ.1 14 ∧ μ.1 14 ≤ 40 ∧ σ.1 14 = μ.1 14) ∧ (∀ j, 0 ≤ j → j ≤ μ.1 14 → lvl μ G j) ∧ (∀ j, 0 ≤ j → j < μ.1 14 → stk σ μ G j) ∧ σ.1 15 = G 0 (μ.2 16 (μ.1 14).toNat) ∧ σ.1 16 = pex μ (G 0) (qN μ (μ.1 14))
/-- at most one link of an old node changes, at T -/
theorem pTn_gen {σ μ σ' μ' : z_S} {G G' : Nat → Int → Int} {T : Int} (h : pTn σ μ G) (hR : μ.1 8 ≤ μ'.1 8 ∧ σ.1 4 ≤ σ'.1 4 ∧ σ.1 6 ≤ σ'.1 6 ∧ σ.1 7 ≤ σ'.1 7 ∧ μ.1 9 ≤ μ'.1 9 ∧ μ.1 10 ≤ μ'.1 10) (hR2 : σ'.1 8 = μ'.1 9 ∧ μ'.1 9 ≤ 20)
    (hk : ∀ m, 0 ≤ m → m < μ.1 8 → μ'.2 3 m.toNat = μ.2 3 m.toNat ∧ G' 0 m = G 0 m ∧ G' 2 m = G 2 m ∧ (μ.2 3 m.toNat = 1 → μ'.2 7 m.toNat = μ.2 7 m.toNat) ∧ (μ.2 3 m.toNat = 2 ∨ G 6 m = 1 → G' 1 m = G 1 m) ∧ (G 6 m = 1 → G' 6 m = 1) ∧ (G 7 m = 1 → G' 7 m = 1))
    (hw : ∀ p, 0 ≤ p → p < σ.1 4 → G' 3 p = G 3 p) (hs : ∀ p, 0 ≤ p → p < σ.1 4 → σ'.2 1 p.toNat = σ.2 1 p.toNat ∧ (p ≠ T → σ'.2 2 p.toNat = σ.2 2 p.toNat))
    (ha : ∀ j, 7 ≤ j → j ≤ 12 → ∀ i : Nat, (i : Int) < σ.1 6 → σ'.2 j i = σ.2 j i) (hg : ∀ a, 1 ≤ a → a ≤ μ.1 9 → G' 4 a = G 4 a) (hl : ∀ a, 0 ≤ a → a < σ.1 7 → G' 5 a = G 5 a)
    (hreg : ∀ n, 0 ≤ n → n < μ.1 8 → pNq σ' μ' G' n ∨ ((μ'.2 4 n.toNat = μ.2 4 n.toNat ∧ μ'.2 5 n.toNat = μ.2 5 n.toNat ∧ μ'.2 6 n.toNat = μ.2 6 n.toNat ∧ μ'.2 7 n.toNat = μ.2 7 n.toNat ∧ μ'.2 9 n.toNat = μ.2 9 n.toNat ∧ (μ.2 3 n.toNat = 16 → μ'.2 10 n.toNat = μ.2 10 n.toNat ∧ μ'.2 11 n.toNat = μ.2 11 n.toNat)) ∧
      ((G' 6 n = 1 → G 6 n = 1) ∧ (Qp μ n → Qp μ' n) ∧ (μ.2 3 n.toNat = 16 → G' 6 (μ.2 7 n.toNat) = 1 → G 6 (μ.2 7 n.toNat) = 1)) ∧
      (∀ p, 0 ≤ p → p < σ.1 4 → G 3 p = n → (μ.2 3 n.toNat = 2 ∨ G 6 n = 1 ∨ (12 ≤ μ.2 3 n.toNat ∧ p = G 0 n) ∨ μ.2 3 n.toNat = 16 → p ≠ T) ∧ σ'.2 3 p.toNat = σ.2 3 p.toNat ∧ σ'.2 4 p.toNat = σ.2 4 p.toNat) ∧
      (μ.2 3 n.toNat = 16 → pex μ (G 0) (μ.2 7 n.toNat) ≠ T)))
    (hnew : ∀ n, μ.1 8 ≤ n → n < μ'.1 8 → pNq σ' μ' G' n)
    (hT : 0 ≤ T → T < σ.1 4 → pEnds σ' μ' G' T) (hnE : ∀ p, σ.1 4 ≤ p → p < σ'.1 4 → pEnds σ' μ' G' p ∧ pBks σ' μ' G' p) (hnB : ∀ n, μ.1 8 ≤ n → n < μ'.1 8 → μ'.2 3 n.toNat = 7 → σ.1 4 ≤ G' 0 n ∧ n = μ.1 8) : pTn σ' μ' G' := by
  obtain ⟨h1, h2, h3, h4, h5, h6, h7, h8, h9, h10, h11, h12, h13⟩ := h
  obtain ⟨R1, R2, R3, R4, R5, R6⟩ := hR
  have hold : ∀ n, 0 ≤ n → n < μ.1 8 → pNq σ' μ' G' n := fun n n0 n1 => by
    rcases hreg n n0 n1 with r | ⟨r1, r2, r3, r4⟩
    · exact r
    · refine pNq_ag (h1 n n0 n1) n0 n1 ⟨R1, R2, R3, R4, R5, R6⟩ hk r1 r2 hw (fun p p0 p1 pn => ?_) (fun e => ?_) ha hg hl
      · obtain ⟨q1, q2, q3⟩ := r3 p p0 p1 pn
        obtain ⟨s1, s2⟩ := hs p p0 p1
        exact ⟨s1, fun z => s2 (q1 z), q2, q3⟩
      · obtain ⟨hrep, -, -, -⟩ := (h1 n n0 n1).2.2.2.2.2.2 e
        have hf := hrep.2.2.2.2.2.1
        have hnf := (h1 _ hf.1 hf.2.1).2.1 (by omega)
        have hpx : 0 ≤ pex μ (G 0) (μ.2 7 n.toNat) ∧ pex μ (G 0) (μ.2 7 n.toNat) < σ.1 4 := by
          unfold pex
          have : eW (μ.2 3 (μ.2 7 n.toNat).toNat) = if 12 ≤ μ.2 3 (μ.2 7 n.toNat).toNat then 2 else 1 := by
            unfold eW; rw [if_neg (by omega)]
          split at this
          · split <;> omega
          · split <;> omega
        exact (hs _ hpx.1 hpx.2).2 (r4 e)
  refine ⟨fun n n0 n1 => ?_, ?_, fun p p0 p1 => ?_, fun p p0 p1 => ?_, fun n m n0 nm m1 kn km => ?_, by omega, by omega, by omega, by omega, hR2.1, by omega, hR2.2, by omega⟩
  · by_cases e : n < μ.1 8
    · exact hold n n0 e
    · exact hnew n (by omega) n1
  · obtain ⟨q1, q2, q3, q4, q5, q6, q7, q8⟩ := h2
    obtain ⟨m1, m2, m3, m4, -⟩ := hk 0 (by omega) (by omega)
    rw [show (0 : Int).toNat = 0 from rfl] at m1 m4
    obtain ⟨f1, f2, f3, f4, f5, -⟩ := hk _ q3 q4
    have hs0 := (hs 0 (by omega) (by omega)).1
    rw [show (0 : Int).toNat = 0 from rfl] at hs0
    rw [m4 q2, m1, f1, f2, f3, f5 (Or.inl q5), hs0]
    exact ⟨q1, q2, q3, by omega, q5, q6, q7, q8⟩
  · by_cases e : p < σ.1 4
    · by_cases e2 : p = T
      · subst e2; exact hT p0 e
      · intro hp
        obtain ⟨s1, s2⟩ := hs p p0 e
        have s2 := s2 e2
        have hp' : pEnd σ p := by unfold pEnd at hp ⊢; rw [s1] at hp; exact hp
        obtain ⟨q1, q2, q3⟩ := h3 p p0 e hp'
        have hlv : ∀ p, 0 ≤ p → p < σ.1 4 → pEnd σ p → G' 2 (G' 3 p) = G 2 (G 3 p) := fun p p0 p1 hp => by
          rw [hw p p0 p1]
          obtain ⟨q1, -⟩ := h3 p p0 p1 hp
          exact (hk _ q1.2.2.1 q1.2.2.2).2.2.1
        rw [s2, hlv p p0 e hp', hw p p0 e]
        refine ⟨⟨q1.1, q1.2.1, q1.2.2.1, by omega⟩, ⟨q2.1, by omega⟩, fun z => ?_⟩
        have s3 := (hs _ q2.1 q2.2).1
        have hz : pEnd σ (σ.2 2 p.toNat) := by unfold pEnd at z ⊢; rw [s3] at z; exact z
        rw [hlv _ q2.1 q2.2 hz]
        exact q3 hz
    · exact (hnE p (by omega) p1).1
  · by_cases e : p < σ.1 4
    · intro hp
      rw [(hs p p0 e).1] at hp
      obtain ⟨q1, q2, q3, q4⟩ := h4 p p0 e hp
      obtain ⟨m1, m2, -⟩ := hk _ q1 q2
      rw [hw p p0 e, m1, m2]
      exact ⟨q1, by omega, q3, q4⟩
    · exact (hnE p (by omega) p1).2
  · by_cases e : m < μ.1 8
    · obtain ⟨a1, a2, -⟩ := hk n n0 (by omega)
      obtain ⟨b1, b2, -⟩ := hk m (by omega) e
      rw [a2, b2]
      exact h5 n m n0 nm e (by rw [← a1]; exact kn) (by rw [← b1]; exact km)
    · obtain ⟨c1, c2⟩ := hnB m (by omega) m1 km
      by_cases e2 : n < μ.1 8
      · obtain ⟨a1, a2, -⟩ := hk n n0 e2
        rw [a1] at kn
        have := (h1 n n0 e2).2.1 (by omega)
        have hw1 : eW (μ.2 3 n.toNat) = 1 := by unfold eW; rw [if_neg (by omega), if_neg (by omega)]
        rw [a2]; omega
      · have := hnB n (by omega) (by omega) kn
        omega
