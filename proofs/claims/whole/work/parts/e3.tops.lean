section TI
variable {σ μ σ' μ' : z_S} {G G' : Nat → Int → Int} {n t : Int}
theorem en_ne (h : pNq σ μ G t) (hk : 3 ≤ μ.2 3 t.toNat) : ¬ pEnd σ (G 0 t) := by
  obtain ⟨h1, h2, ⟨⟨t3, t4, t5, t6, t7, t8, t9, t10, t11⟩, -⟩, -, -, h6, h7⟩ := h
  have hc : μ.2 3 t.toNat = 3 ∨ μ.2 3 t.toNat = 4 ∨ μ.2 3 t.toNat = 5 ∨ μ.2 3 t.toNat = 6 ∨ μ.2 3 t.toNat = 7 ∨ μ.2 3 t.toNat = 8 ∨ μ.2 3 t.toNat = 9 ∨ μ.2 3 t.toNat = 10 ∨ μ.2 3 t.toNat = 11 ∨ (12 ≤ μ.2 3 t.toNat ∧ μ.2 3 t.toNat ≤ 15) ∨ μ.2 3 t.toNat = 16 := by omega
  unfold pEnd
  rcases hc with c | c | c | c | c | c | c | c | c | c | c
  · have := t3 c; omega
  · have := t4 c; omega
  · have := t5 c; omega
  · have := t6 c; omega
  · have := t7 c; omega
  · have := t8 c; omega
  · have := t9 c; omega
  · have := t10 c; omega
  · have := t11 c; omega
  · have := (h6 c.1 c.2).1; omega
  · have := (h7 c).1.1; omega
theorem en_bd (h : pNq σ μ G t) (hk : 2 ≤ μ.2 3 t.toNat) : 0 ≤ G 0 t ∧ G 0 t < σ.1 4 ∧ 0 ≤ pex μ (G 0) t ∧ pex μ (G 0) t < σ.1 4 ∧ G 3 (pex μ (G 0) t) = t ∧ G 3 (G 0 t) = t := by
  obtain ⟨a1, a2, a3, a4, a5, a6, a7⟩ := h.2.1 hk
  by_cases c : 12 ≤ μ.2 3 t.toNat ∧ μ.2 3 t.toNat ≤ 15
  · have w : eW (μ.2 3 t.toNat) = 2 := by unfold eW; rw [if_neg (by omega), if_pos c.1]
    have e : pex μ (G 0) t = G 0 t + 1 := by unfold pex; rw [if_pos c]
    rw [e]
    exact ⟨by omega, by omega, by omega, by omega, a6 c.1, a5⟩
  · have w : 1 ≤ eW (μ.2 3 t.toNat) := by unfold eW; split <;> (try split) <;> omega
    have e : pex μ (G 0) t = G 0 t := by unfold pex; rw [if_neg c]
    rw [e]
    exact ⟨by omega, by omega, by omega, by omega, a5, a5⟩
/-- a term behind the last of the alternative -/
def mAdd (μ : z_S) (a t : Int) : z_S := zA (if μ.2 7 a.toNat < 0 then zA μ 7 a.toNat t else zA μ 9 (μ.2 8 a.toNat).toNat t) 8 a.toNat t
theorem mAdd_1 {a t : Int} : (mAdd μ a t).1 = μ.1 := by unfold mAdd; rw [zA_1]; split <;> rfl
theorem mAdd_2 {a t : Int} (j i : Nat) : (mAdd μ a t).2 j i = if j = 8 ∧ i = a.toNat then t else if j = 7 ∧ i = a.toNat ∧ μ.2 7 a.toNat < 0 then t else if j = 9 ∧ i = (μ.2 8 a.toNat).toNat ∧ ¬ μ.2 7 a.toNat < 0 then t else μ.2 j i := by
  unfold mAdd
  by_cases c : μ.2 7 a.toNat < 0
  · rw [if_pos c]
    simp only [zA_2]
    by_cases e8 : j = 8
    · subst e8
      by_cases ei : i = a.toNat
      · simp [ei, zupd_s]
      · simp [ei, zupd_n]
    · by_cases e7 : j = 7
      · subst e7
        by_cases ei : i = a.toNat
        · simp [ei, zupd_s, c]
        · simp [ei, zupd_n]
      · simp [e8, e7, c]
  · rw [if_neg c]
    simp only [zA_2]
    by_cases e8 : j = 8
    · subst e8
      by_cases ei : i = a.toNat
      · simp [ei, zupd_s]
      · simp [ei, zupd_n]
    · by_cases e9 : j = 9
      · subst e9
        by_cases ei : i = (μ.2 8 a.toNat).toNat
        · simp [ei, zupd_s, c]
        · simp [ei, zupd_n, c]
      · simp [e8, e9, c]
def Ga (G : Nat → Int → Int) (t f : Int) : Nat → Int → Int := fun j i => if i = t ∧ j = 1 then f else if i = t ∧ (j = 6 ∨ j = 7) then 1 else G j i
theorem Ga_o {f : Int} {j : Nat} {i : Int} (h : i ≠ t ∨ (j ≠ 1 ∧ j ≠ 6 ∧ j ≠ 7)) : Ga G t f j i = G j i := by
  unfold Ga
  rw [if_neg (fun z => by omega), if_neg (fun z => by omega)]
theorem Ga_t {f : Int} : Ga G t f 1 t = f ∧ Ga G t f 6 t = 1 ∧ Ga G t f 7 t = 1 := by
  refine ⟨?_, ?_, ?_⟩ <;> simp [Ga]
theorem tApp (hn : pTn σ μ G) (hl : pTl σ μ G) (t0 : 0 ≤ t) (t1 : t < μ.1 8) (tk : 3 ≤ μ.2 3 t.toNat) (t7 : G 7 t ≠ 1) (tlv : G 2 t = μ.1 14 + 1) (tb : μ.2 9 t.toNat < 0) :
    pTn (zF (zA σ 2 (σ.1 16).toNat (G 0 t)) 16 (pex μ (G 0) t)) (mAdd μ (μ.2 16 (μ.1 14).toNat) t) (Ga G t (G 1 (μ.2 16 (μ.1 14).toNat))) ∧ pTl (zF (zA σ 2 (σ.1 16).toNat (G 0 t)) 16 (pex μ (G 0) t)) (mAdd μ (μ.2 16 (μ.1 14).toNat) t) (Ga G t (G 1 (μ.2 16 (μ.1 14).toNat))) := by
  obtain ⟨⟨d0, d1, d2⟩, hlv, hst, c15, c16⟩ := id hl
  have hL := hlv (μ.1 14) d0 (Int.le_refl _)
  obtain ⟨⟨A0, A1, A2, A3, A4⟩, ⟨C0, C1, C2, C3, C4⟩, hLL, hf0, hO⟩ := id hL
  obtain ⟨q0, q1, q2, q3⟩ := qN_bd hL
  generalize hA : μ.2 16 (μ.1 14).toNat = A at *
  generalize hd : μ.1 14 = d at *
  have hnq := hn.1 _ q0 q1
  have hnt := hn.1 t t0 t1
  have hnA := hn.1 A A0 A1
  have q2k : 2 ≤ μ.2 3 (qN μ d).toNat := by
    rcases q3 with e | e
    · omega
    · have := (hnq.2.2.2.2.1 e).1.1.1; omega
  obtain ⟨x1, x2, x3, x4, x5, x6⟩ := en_bd hnq q2k
  obtain ⟨y1, y2, y3, y4, y5, y6⟩ := en_bd hnt (by omega)
  have t6 : G 6 t ≠ 1 := fun z => t7 (hnt.2.2.2.2.1 z).2
  have tne : t ≠ qN μ d := by
    intro e
    rcases q3 with z | z
    · rw [← e] at z; omega
    · rw [← e] at z; exact t6 z
  have tneA : t ≠ A := by intro e; rw [e] at tk; omega
  have hqA : qN μ d = if μ.2 8 A.toNat < 0 then A else μ.2 8 A.toNat := by unfold qN; rw [hA]
  have T : σ.1 16 = pex μ (G 0) (qN μ d) := c16
  have s2 : ∀ i : Nat, (zF (zA σ 2 (σ.1 16).toNat (G 0 t)) 16 (pex μ (G 0) t)).2 2 i = if i = (σ.1 16).toNat then G 0 t else σ.2 2 i := fun i => rfl
  have sj : ∀ j i : Nat, j ≠ 2 → (zF (zA σ 2 (σ.1 16).toNat (G 0 t)) 16 (pex μ (G 0) t)).2 j i = σ.2 j i := fun j i hj => by
    show (zA σ 2 (σ.1 16).toNat (G 0 t)).2 j i = _
    rw [zA_2, if_neg hj]
  have s1 : ∀ k, k ≠ 16 → (zF (zA σ 2 (σ.1 16).toNat (G 0 t)) 16 (pex μ (G 0) t)).1 k = σ.1 k := fun k hk => if_neg hk
  have s16 : (zF (zA σ 2 (σ.1 16).toNat (G 0 t)) 16 (pex μ (G 0) t)).1 16 = pex μ (G 0) t := rfl
  generalize hσ' : zF (zA σ 2 (σ.1 16).toNat (G 0 t)) 16 (pex μ (G 0) t) = σ' at *
  have m1 : (mAdd μ A t).1 = μ.1 := mAdd_1
  have m2 := mAdd_2 (μ := μ) (a := A) (t := t)
  generalize hμ' : mAdd μ A t = μ' at *
  have mj : ∀ j i : Nat, j ≠ 7 → j ≠ 8 → j ≠ 9 → μ'.2 j i = μ.2 j i := fun j i h7 h8 h9 => by rw [m2 j i, if_neg (by omega), if_neg (by omega), if_neg (by omega)]
  -- first, last, behind of other nodes
  have m7 : ∀ m, 0 ≤ m → m ≠ A → μ'.2 7 m.toNat = μ.2 7 m.toNat := fun m h0 hm => by rw [m2 7 m.toNat, if_neg (by omega), if_neg (by omega), if_neg (by omega)]
  have m8 : ∀ m, 0 ≤ m → m ≠ A → μ'.2 8 m.toNat = μ.2 8 m.toNat := fun m h0 hm => by rw [m2 8 m.toNat, if_neg (by omega), if_neg (by omega), if_neg (by omega)]
  have m8A : μ'.2 8 A.toNat = t := by rw [m2 8 A.toNat, if_pos ⟨rfl, rfl⟩]
  have m9 : ∀ m, 0 ≤ m → m ≠ qN μ d → μ'.2 9 m.toNat = μ.2 9 m.toNat := fun m h0 hm => by
    rw [m2 9 m.toNat, if_neg (by omega), if_neg (by omega)]
    by_cases z : m.toNat = (μ.2 8 A.toNat).toNat ∧ ¬ μ.2 7 A.toNat < 0
    · exfalso
      rw [hqA] at hm
      rcases hLL with ⟨l1, l2⟩ | ⟨l1, l2, -⟩
      · exact z.2 l1
      · rw [if_neg (by omega)] at hm; omega
    · rw [if_neg (fun w => z ⟨w.2.1, w.2.2⟩)]
  have m9t : μ'.2 9 t.toNat = μ.2 9 t.toNat := m9 t t0 tne
  have g1A : Ga G t (G 1 A) 1 A = G 1 A := Ga_o (Or.inl (Ne.symm tneA))
  have hGo : ∀ j i, (i ≠ t ∨ (j ≠ 1 ∧ j ≠ 6 ∧ j ≠ 7)) → Ga G t (G 1 A) j i = G j i := fun j i h => Ga_o h
  obtain ⟨gt1, gt6, gt7⟩ := Ga_t (G := G) (t := t) (f := G 1 A)
  generalize hG' : Ga G t (G 1 A) = G' at *
  have g0 : G' 0 = G 0 := funext fun i => hGo 0 i (Or.inr ⟨by omega, by omega, by omega⟩)
  have g2 : G' 2 = G 2 := funext fun i => hGo 2 i (Or.inr ⟨by omega, by omega, by omega⟩)
  have g3 : G' 3 = G 3 := funext fun i => hGo 3 i (Or.inr ⟨by omega, by omega, by omega⟩)
  have g4 : G' 4 = G 4 := funext fun i => hGo 4 i (Or.inr ⟨by omega, by omega, by omega⟩)
  have g5 : G' 5 = G 5 := funext fun i => hGo 5 i (Or.inr ⟨by omega, by omega, by omega⟩)
  have k3 : μ'.2 3 = μ.2 3 := funext fun i => mj 3 i (by omega) (by omega) (by omega)
  have hpx : ∀ m, pex μ' (G' 0) m = pex μ (G 0) m := fun m => by unfold pex; rw [k3, g0]
  have hk : ∀ m, 0 ≤ m → m < μ.1 8 → μ'.2 3 m.toNat = μ.2 3 m.toNat ∧ G' 0 m = G 0 m ∧ G' 2 m = G 2 m ∧ (μ.2 3 m.toNat = 1 → μ'.2 7 m.toNat = μ.2 7 m.toNat) ∧ (μ.2 3 m.toNat = 2 ∨ G 6 m = 1 → G' 1 m = G 1 m) ∧ (G 6 m = 1 → G' 6 m = 1) ∧ (G 7 m = 1 → G' 7 m = 1) := fun m h0 h1 => by
    refine ⟨by rw [k3], by rw [g0], by rw [g2], fun e => m7 m h0 (fun z => by rw [z] at e; omega), fun e => hGo 1 m (Or.inl (fun z => ?_)), fun e => ?_, fun e => ?_⟩
    · rw [z] at e
      rcases e with e | e
      · omega
      · exact t6 e
    · by_cases z : m = t
      · rw [z]; exact gt6
      · rw [hGo 6 m (Or.inl z)]; exact e
    · by_cases z : m = t
      · rw [z]; exact gt7
      · rw [hGo 7 m (Or.inl z)]; exact e
  have hqN : ∀ j, 0 ≤ j → j < d → qN μ' j = qN μ j := fun j j0 j1 => by
    have hj := hlv j j0 (by omega)
    refine qN_ag (mj 16 _ (by omega) (by omega) (by omega)) (m8 _ hj.1.1 (fun z => ?_))
    have := hj.1.2.2.2.1
    rw [z, A3] at this; omega
  have hqd : qN μ' d = t := by
    unfold qN
    rw [mj 16 _ (by omega) (by omega) (by omega), hA, m8A, if_neg (by omega)]
  have hQ : ∀ m, Qp μ m → m ≠ qN μ d → Qp μ' m := fun m ⟨j, j0, j1, j2⟩ hm => by
    rw [hd] at j1
    have hjd : j ≠ d := fun z => hm (by rw [j2, z])
    exact ⟨j, j0, by rw [m1, hd]; exact j1, by rw [hqN j j0 (by omega)]; exact j2⟩
  have hfinA : pFin μ (G 0) (G 1) (G 2) A := (hnA.2.2.2.1 A2).2
  have hfin : ∀ m, G' 1 m = G 1 m → pFin μ (G 0) (G 1) (G 2) m → pFin μ' (G' 0) (G' 1) (G' 2) m := fun m e hf => by
    unfold pFin at hf ⊢
    rw [g0, g2, e, m1, k3]; exact hf
  constructor
  · refine pTn_gen (T := σ.1 16) hn (by rw [m1, s1 4 (by omega), s1 6 (by omega), s1 7 (by omega)]; omega) (by rw [m1, s1 8 (by omega)]; exact ⟨hn.2.2.2.2.2.2.2.2.2.1, hn.2.2.2.2.2.2.2.2.2.2.2.1⟩) hk (fun p _ _ => by rw [g3]) (fun p p0 p1 => ⟨sj 1 _ (by omega), fun z => by rw [s2, if_neg (by omega)]⟩) (fun j j1 j2 i _ => sj j i (by omega)) (fun a _ _ => by rw [g4]) (fun a _ _ => by rw [g5]) (fun n n0 n1 => ?_) (fun n n0 n1 => by rw [m1] at n1; omega) (fun T0 T1 => ?_) (fun p p0 p1 => by rw [s1 4 (by omega)] at p1; omega) (fun n n0 n1 => by rw [m1] at n1; omega)
    · by_cases e1 : n = qN μ d
      · -- the one behind which it comes
        left
        rw [e1]
        refine pNq_ag2 hnq q0 q1 (by rw [m1, s1 4 (by omega), s1 6 (by omega), s1 7 (by omega)]; omega) hk ⟨by rw [mj 4 _ (by omega) (by omega) (by omega)], by rw [mj 5 _ (by omega) (by omega) (by omega)], by rw [mj 6 _ (by omega) (by omega) (by omega)], fun z => m7 _ q0 (fun w => by rw [w] at z; omega), fun z => ⟨by rw [mj 10 _ (by omega) (by omega) (by omega)], by rw [mj 11 _ (by omega) (by omega) (by omega)]⟩⟩ (fun z w => ?_) (fun p _ _ => by rw [g3]) (fun p p0 p1 pn => ⟨sj 1 _ (by omega), fun z => ?_, fun _ => sj 3 _ (by omega), sj 4 _ (by omega)⟩) (fun z => ?_) (fun j j1 j2 i _ => sj j i (by omega)) (fun a _ _ => by rw [g4]) (fun a _ _ => by rw [g5]) (fun z => ?_) (fun z => ?_)
        · have hrep := hnq.2.2.2.2.2.2 z
          rw [hGo 6 _ (Or.inl (fun e => t7 (by rw [← e]; exact hrep.2.2.1)))] at w
          exact w
        · rw [s2, if_neg]
          rw [T]
          unfold pex
          split <;> omega
        · have hrep := hnq.2.2.2.2.2.2 z
          have hfr := hrep.1.2.2.2.2.2.1
          have := en_bd (hn.1 _ hfr.1 hfr.2.1) (by omega)
          rw [s2, if_neg]
          intro e
          have e2 : pex μ (G 0) (μ.2 7 (qN μ d).toNat) = σ.1 16 := by omega
          rw [T] at e2
          have e3 := this.2.2.2.2.1
          rw [e2, x5] at e3
          have : G 6 (qN μ d) ≠ 1 := by rw [e3]; exact hrep.2.2.2
          rcases q3 with w | w
          · omega
          · exact this w
        · have hqa : qN μ d = A := by
            rw [hqA]
            split
            · rfl
            · rename_i w
              rcases hLL with l | ⟨l1, l2, l3, l4, -⟩
              · omega
              · rw [hqA, if_neg w] at z
                have := ((hn.1 _ l2 l3).2.2.2.2.1 l4).1.1.1; omega
          rw [hqa] at z ⊢
          have l8 : μ.2 8 A.toNat < 0 := by
            rw [hqA] at hqa
            split at hqa
            · assumption
            · rcases hLL with l | ⟨l1, l2, l3, l4, -⟩
              · omega
              · rw [hqa] at l4
                have := (hnA.2.2.2.2.1 l4).1.1.1; omega
          have l7 : μ.2 7 A.toNat < 0 := by rcases hLL with l | l <;> omega
          have m7A : μ'.2 7 A.toNat = t := by rw [m2 7 A.toNat, if_neg (by omega), if_pos ⟨rfl, rfl, l7⟩]
          have m9A : μ'.2 9 A.toNat = μ.2 9 A.toNat := by rw [m2 9 A.toNat, if_neg (by omega), if_neg (by omega), if_neg (by omega)]
          obtain ⟨⟨u1, u2, u3, u4, u5⟩, u6⟩ := hnA.2.2.2.1 A2
          refine ⟨⟨by rw [g0, sj 1 _ (by omega)]; exact u1, ?_, fun w => ?_, fun _ => ?_, fun _ => ?_⟩, hfin A g1A u6⟩
          · rw [g0, sj 3 _ (by omega), m9A]; exact u2
          · rw [m9A] at w; omega
          · have hpA : pex μ (G 0) A = G 0 A := by unfold pex; rw [if_neg (by omega)]
            rw [hqa, hpA] at T
            rw [g0, m7A, if_neg (by omega), s2, if_pos (by rw [T])]
          · rw [m7A, m1, gt6, gt1, g1A, g2, tlv, A3]
            exact ⟨t1, rfl, rfl, rfl⟩
        · have z6 : G 6 (qN μ d) = 1 := by rw [hGo 6 _ (Or.inl (Ne.symm tne))] at z; exact z
          obtain ⟨⟨⟨u1, u2, u3⟩, u4⟩, u5⟩ := hnq.2.2.2.2.1 z6
          have hqL : ¬ μ.2 8 A.toNat < 0 := fun w => by
            rw [hqA, if_pos w] at u1; omega
          have hqa : qN μ d = μ.2 8 A.toNat := by rw [hqA, if_neg hqL]
          have l7 : ¬ μ.2 7 A.toNat < 0 := by rcases hLL with l | l <;> omega
          have m9q : μ'.2 9 (qN μ d).toNat = t := by rw [m2 9 _, if_neg (by omega), if_neg (by omega), if_pos ⟨rfl, by rw [hqa], l7⟩]
          have f1 : G' 1 (qN μ d) = G 1 (qN μ d) := hGo 1 _ (Or.inl (Ne.symm tne))
          have fq : G 1 (qN μ d) = G 1 A := by
            rcases hLL with l | ⟨l1, l2, l3, l4, l5, -⟩
            · omega
            · rw [hqa]; exact l5
          refine ⟨⟨⟨by rw [k3]; exact u1, fun _ => ?_, fun _ => ?_⟩, hfin _ f1 u4⟩, by rw [hGo 7 _ (Or.inl (Ne.symm tne))]; exact u5⟩
          · rw [hpx, m9q, if_neg (by omega), g0, s2, if_pos (by rw [T])]
          · rw [m9q, m1, gt6, gt1, f1, g2, tlv, q2, fq]
            exact ⟨t1, rfl, rfl, rfl⟩
      · by_cases e2 : n = t
        · -- the term itself
          left
          rw [e2]
          refine pNq_ag2 hnt t0 t1 (by rw [m1, s1 4 (by omega), s1 6 (by omega), s1 7 (by omega)]; omega) hk ⟨by rw [mj 4 _ (by omega) (by omega) (by omega)], by rw [mj 5 _ (by omega) (by omega) (by omega)], by rw [mj 6 _ (by omega) (by omega) (by omega)], fun z => m7 _ t0 tneA, fun z => ⟨by rw [mj 10 _ (by omega) (by omega) (by omega)], by rw [mj 11 _ (by omega) (by omega) (by omega)]⟩⟩ (fun z w => ?_) (fun p _ _ => by rw [g3]) (fun p p0 p1 pn => ⟨sj 1 _ (by omega), fun z => ?_, fun _ => sj 3 _ (by omega), sj 4 _ (by omega)⟩) (fun z => ?_) (fun j j1 j2 i _ => sj j i (by omega)) (fun a _ _ => by rw [g4]) (fun a _ _ => by rw [g5]) (fun z => by omega) (fun z => ?_)
          · have hrep := hnt.2.2.2.2.2.2 z
            rw [hGo 6 _ (Or.inl (fun e => t7 (by rw [← e]; exact hrep.2.2.1)))] at w
            exact w
          · rw [s2, if_neg]
            intro w
            have : p = σ.1 16 := by omega
            rw [this, T, x5] at pn
            exact tne pn.symm
          · have hrep := hnt.2.2.2.2.2.2 z
            have hfr := hrep.1.2.2.2.2.2.1
            have := en_bd (hn.1 _ hfr.1 hfr.2.1) (by omega)
            rw [s2, if_neg]
            intro e
            have e2 : pex μ (G 0) (μ.2 7 t.toNat) = σ.1 16 := by omega
            rw [T] at e2
            have e3 := this.2.2.2.2.1
            rw [e2, x5] at e3
            rcases q3 with w | w
            · rw [e3] at w; omega
            · rw [e3] at w; exact hrep.2.2.2 w
          · refine ⟨⟨⟨by rw [k3]; exact tk, fun w => absurd ⟨d, d0, by rw [m1, hd]; exact Int.le_refl _, hqd.symm⟩ w, fun w => by rw [m9t] at w; omega⟩, ?_⟩, gt7⟩
            unfold pFin at hfinA ⊢
            rw [g0, g2, gt1, m1, k3, tlv]
            rw [A3] at hfinA
            exact hfinA
        · right
          refine ⟨⟨by rw [mj 4 _ (by omega) (by omega) (by omega)], by rw [mj 5 _ (by omega) (by omega) (by omega)], by rw [mj 6 _ (by omega) (by omega) (by omega)], ?_, m9 n n0 e1, fun _ => ⟨by rw [mj 10 _ (by omega) (by omega) (by omega)], by rw [mj 11 _ (by omega) (by omega) (by omega)]⟩⟩, ⟨fun z => by rw [hGo 6 n (Or.inl e2)] at z; exact z, fun z => hQ n z e1, fun z w => ?_⟩, fun p p0 p1 pn => ⟨fun _ w => ?_, sj 3 _ (by omega), sj 4 _ (by omega)⟩, fun z w => ?_⟩
          · by_cases eA : n = A
            · rw [eA, m2 7 A.toNat, if_neg (by omega), if_neg (fun z => ?_), if_neg (by omega)]
              rcases hLL with l | l
              · apply e1
                rw [eA, hqA, if_pos l.2]
              · omega
            · exact m7 n n0 eA
          · have hrep := (hn.1 n n0 n1).2.2.2.2.2.2 z
            rw [hGo 6 _ (Or.inl (fun e => t7 (by rw [← e]; exact hrep.2.2.1)))] at w
            exact w
          · rw [w, T, x5] at pn
            exact e1 pn.symm
          · have hrep := (hn.1 n n0 n1).2.2.2.2.2.2 z
            have hfr := hrep.1.2.2.2.2.2.1
            have := en_bd (hn.1 _ hfr.1 hfr.2.1) (by omega)
            rw [T] at w
            have e3 := this.2.2.2.2.1
            rw [w, x5] at e3
            rcases q3 with v | v
            · rw [e3] at v; omega
            · rw [e3] at v; exact hrep.2.2.2 v
    · intro hp
      have hp0 : pEnd σ (σ.1 16) := by unfold pEnd at hp ⊢; rw [sj 1 _ (by omega)] at hp; exact hp
      obtain ⟨v1, v2, v3⟩ := hn.2.2.1 _ T0 T1 hp0
      rw [g2, g3, m1, s2, if_pos rfl]
      refine ⟨v1, ⟨y1, by rw [s1 4 (by omega)]; exact y2⟩, fun z => absurd ?_ (en_ne hnt tk)⟩
      unfold pEnd at z ⊢
      rw [sj 1 _ (by omega)] at z; exact z
  · refine ⟨⟨by rw [m1, hd]; exact d0, by rw [m1, hd]; exact d1, by rw [m1, s1 14 (by omega), hd]; exact d2⟩, fun j j0 j1 => ?_, fun j j0 j1 => ?_, ?_, ?_⟩
    · rw [m1, hd] at j1
      by_cases e : j = d
      · subst e
        unfold lvl
        have e16 : μ'.2 16 j.toNat = A := by rw [mj 16 _ (by omega) (by omega) (by omega)]; exact hA
        have e15 : μ'.2 15 j.toNat = μ.2 15 j.toNat := mj 15 _ (by omega) (by omega) (by omega)
        have e14 : μ'.2 14 j.toNat = μ.2 14 j.toNat := mj 14 _ (by omega) (by omega) (by omega)
        have CneA : μ.2 15 j.toNat ≠ A := fun z => by rw [z] at C2; omega
        have m9A : μ'.2 9 A.toNat < 0 := by
          by_cases w : A = qN μ j
          · have : μ.2 8 A.toNat < 0 := by
              rw [hqA] at w
              rcases hLL with l | ⟨l1, l2, l3, l4, -⟩
              · exact l.2
              · rw [if_neg (by omega)] at w
                rw [← w] at l4
                have := (hnA.2.2.2.2.1 l4).1.1.1; omega
            rw [m2 9 A.toNat, if_neg (by omega), if_neg (by omega), if_neg (fun z => by rcases hLL with l | l <;> omega)]
            exact A4
          · rw [m9 A A0 w]; exact A4
        rw [e16, e15, e14, m1, k3, g2, g0, g1A, m8A, m7 _ C0 CneA, m8 _ C0 CneA, gt6, gt1, m9t]
        refine ⟨⟨A0, A1, A2, A3, m9A⟩, ⟨C0, C1, C2, C3, C4⟩, Or.inr ⟨?_, t0, t1, rfl, rfl, tlv, tb⟩, hf0, fun hj => ?_⟩
        · rw [m2 7 A.toNat, if_neg (by omega)]
          by_cases w : μ.2 7 A.toNat < 0
          · rw [if_pos ⟨rfl, rfl, w⟩]; exact t0
          · rw [if_neg (by omega), if_neg (by omega)]; omega
        · obtain ⟨o1, o2, o3, o4, o5, o6, o7, o8⟩ := hO hj
          have one : μ.2 14 j.toNat ≠ t := fun z => by rw [z, tlv] at o5; omega
          have onq : μ.2 14 j.toNat ≠ qN μ j := fun z => by rw [z, q2] at o5; omega
          rw [hGo 7 _ (Or.inl one), m9 _ o1 onq]
          exact ⟨o1, o2, o3, o4, o5, o6, o7, o8⟩
      · have hj := hlv j j0 j1
        have hjA : μ.2 16 j.toNat ≠ A := fun z => by have := hj.1.2.2.2.1; rw [z, A3] at this; omega
        have hjq : μ.2 16 j.toNat ≠ qN μ d := fun z => by have := hj.1.2.2.2.1; rw [z, q2] at this; omega
        have hjC : μ.2 15 j.toNat ≠ A := fun z => by have := hj.2.1.2.2.1; rw [z] at this; omega
        refine lvl_ag hj (by rw [m1]; omega) ⟨mj 14 _ (by omega) (by omega) (by omega), mj 15 _ (by omega) (by omega) (by omega), mj 16 _ (by omega) (by omega) (by omega)⟩ (fun m h0 h1 => ?_) ⟨m7 _ hj.1.1 hjA, m8 _ hj.1.1 hjA, m9 _ hj.1.1 hjq⟩ ⟨m7 _ hj.2.1.1 hjC, m8 _ hj.2.1.1 hjC⟩ (fun w => m9 _ w (fun z => ?_)) (fun w => ?_)
        · obtain ⟨k1, k2, k3, k4, k5, k6, k7⟩ := hk m h0 h1
          exact ⟨k1, k2, k3, k5, k6⟩
        · rcases hj.2.2.1 with l | l
          · omega
          · have := l.2.2.2.2.2.1; rw [z, q2] at this; omega
        · obtain ⟨o1, o2, o3, o4, o5, o6, o7, o8⟩ := hj.2.2.2.2 w
          exact ⟨hGo 7 _ (Or.inl (fun z => by rw [z, tlv] at o5; omega)), m9 _ o1 (fun z => by rw [z, q2] at o5; omega)⟩
    · rw [m1, hd] at j1
      have hj := hlv j j0 (by omega)
      have hj1 := hlv (j + 1) (by omega) (by omega)
      have hjA : μ.2 16 j.toNat ≠ A := fun z => by have := hj.1.2.2.2.1; rw [z, A3] at this; omega
      exact stk_ag (hst j j0 j1) hj hj1 j0 (fun m h0 h1 => ⟨(hk m h0 h1).1, (hk m h0 h1).2.1⟩) (by rw [mj 10 _ (by omega) (by omega) (by omega)]) ⟨sj 13 _ (by omega), sj 14 _ (by omega), sj 15 _ (by omega), sj 16 _ (by omega)⟩ (mj 14 _ (by omega) (by omega) (by omega)) (mj 16 _ (by omega) (by omega) (by omega)) (m8 _ hj.1.1 hjA)
    · rw [s1 15 (by omega), m1, hd, mj 16 _ (by omega) (by omega) (by omega), hA, g0]; exact c15
    · rw [s16, m1, hd, hqd, hpx]
end TI
