/-! one try from a place -/
theorem zt17_c {N : Nat} {w : Int} : ∀ (n : Nat) (k : Int) (τ : z_S), 0 ≤ k → k ≤ 21 → 21 < k + n →
    ∃ υ, zMachine_tryAt_l17 N n w k τ = zMachine_tryAt_l44 N N w 1 0 υ ∧ zfr [] [18] τ υ ∧ ∀ i : Nat, υ.2 18 i = if k ≤ (i : Int) ∧ i ≤ 20 then -1 else τ.2 18 i := by
  intro n
  induction n with
  | zero => intro k τ h0 h1 h2; omega
  | succ n ih =>
    intro k τ h0 hk hn
    rw [zMachine_tryAt_l17_s]
    by_cases c : (20 : Int) < k
    · rw [if_pos c]
      exact ⟨τ, rfl, zfr_rf, fun i => by rw [if_neg (by omega)]⟩
    · rw [if_neg c, if_pos (show zin (0 + k) from ⟨by omega, by omega⟩), Int.zero_add, zrw (by decide) h0 (by show k < (263 : Int); omega)]
      simp only [Option.bind_some]
      rw [if_pos (show zin (k + 1) from ⟨by omega, by omega⟩)]
      obtain ⟨υ, e1, e2, e3⟩ := ih (k + 1) (zA τ 18 k.toNat (-1)) (by omega) (by omega) (by omega)
      refine ⟨υ, e1, zfr_tr (zfr_A zfr_rf (by simp)) e2, fun i => ?_⟩
      rw [e3 i]
      show (if _ then _ else zupd (τ.2 18) k.toNat (-1) i) = _
      by_cases q : (i : Int) = k
      · rw [if_neg (by omega), if_pos (by omega), show i = k.toNat by omega, zupd_s]
      · rw [zupd_n (by omega)]
        by_cases q2 : k + 1 ≤ (i : Int) ∧ i ≤ 20
        · rw [if_pos q2, if_pos (by omega)]
        · rw [if_neg q2, if_neg (by omega)]
theorem zt17_m {N : Nat} {w : Int} : ∀ (n : Nat) (k : Int) (τ : z_S), 0 ≤ k → k ≤ 42 → 42 < k + n →
    ∃ υ, zMod_tryAt_l17 N n w k τ = ((zMod_row N 8 0 0 0 0 0 υ).bind fun q => (zMod_row N 0 0 q.1 0 0 0 q.2).bind fun q => zMod_tryAt_l57 N N w q.1 q.2) ∧ zfr [] [17] τ υ ∧ ∀ i : Nat, υ.2 17 i = if k ≤ (i : Int) ∧ i ≤ 41 then -1 else τ.2 17 i := by
  intro n
  induction n with
  | zero => intro k τ h0 h1 h2; omega
  | succ n ih =>
    intro k τ h0 hk hn
    rw [zMod_tryAt_l17_s]
    by_cases c : (42 : Int) ≤ k
    · rw [if_pos c]
      exact ⟨τ, rfl, zfr_rf, fun i => by rw [if_neg (by omega)]⟩
    · rw [if_neg c, if_pos (show zIn k 42 from ⟨by omega, by omega⟩), if_pos (show zin (k + 1) from ⟨by omega, by omega⟩)]
      obtain ⟨υ, e1, e2, e3⟩ := ih (k + 1) (zA τ 17 k.toNat (-1)) (by omega) (by omega) (by omega)
      refine ⟨υ, e1, zfr_tr (zfr_A zfr_rf (by simp)) e2, fun i => ?_⟩
      rw [e3 i]
      show (if _ then _ else zupd (τ.2 17) k.toNat (-1) i) = _
      by_cases q : (i : Int) = k
      · rw [if_neg (by omega), if_pos (by omega), show i = k.toNat by omega, zupd_s]
      · rw [zupd_n (by omega)]
        by_cases q2 : k + 1 ≤ (i : Int) ∧ i ≤ 41
        · rw [if_pos q2, if_pos (by omega)]
        · rw [if_neg q2, if_neg (by omega)]
/-- texts and marks are the same -/
def zTxt (σ μ : z_S) : Prop := σ.1 26 = μ.1 7 ∧ 0 ≤ σ.1 26 ∧ σ.1 26 ≤ 600 ∧ ∀ i : Nat, σ.2 17 i = μ.2 2 i ∧ 0 ≤ μ.2 2 i ∧ μ.2 2 i ≤ 65535
theorem zit_01 {X : Nat → Int} (h0 : X 0 = 0) (h1 : X 1 = 0) : ∀ (k : Nat) (r : Int), r = 0 ∨ r = 1 → zit X k r = 0 ∨ zit X k r = 1 := by
  intro k
  induction k with
  | zero => intro r h; exact h
  | succ k ih =>
    intro r h
    refine ih _ (Or.inl ?_)
    rcases h with h | h
    · subst h; exact h0
    · subst h; exact h1
theorem zps_m1 {c : Nat → Int} : ∀ m : Nat, (∀ i, i ≤ m → c i = -1) → zps c m = 0 := by
  intro m
  induction m with
  | zero => intro _; rfl
  | succ m ih =>
    intro h
    show zps c m + (if 0 ≤ c (m + 1) then 1 else 0) = 0
    rw [ih (fun i hi => h i (by omega)), h (m + 1) (by omega)]; decide
theorem ztry {N : Nat} {σ μ : z_S} {w : Int} (hN : 1000000000000 ≤ N) (hp : pProg σ μ) (hx : zTxt σ μ) (hc : ∀ i : Nat, i < 263 → -1 ≤ σ.2 18 i ∧ σ.2 18 i ≤ 60000) (hf : σ.1 25 = μ.1 17) (hf1 : μ.1 17 ≤ 10000) (ht : σ.1 27 = μ.1 16) (ht0 : 0 ≤ μ.1 16) (ht1 : μ.1 16 ≤ μ.1 17) (hw0 : 0 ≤ w) (hw1 : w ≤ μ.1 7) :
    ∃ v σ' μ', zMachine_tryAt N w σ = some (v, σ') ∧ zMod_tryAt N w μ = some (v, μ') ∧ rEnd σ μ σ' μ' v := by
  obtain ⟨hp1, hp2, en, fin, lv, ow, gw, kw, ia, hp3⟩ := hp
  rw [zMachine_tryAt_u, zMod_tryAt_u]
  obtain ⟨σ1, a1, a2, a3⟩ := zt17_c (N := N) (w := w) N 0 (zF (zF (zF σ 24 w) 22 0) 23 0) (by omega) (by omega) (by omega)
  obtain ⟨μ1, b1, b2, b3⟩ := zt17_m (N := N) (w := w) N 0 (zF (zF (zF μ 18 0) 19 0) 11 w) (by omega) (by omega) (by omega)
  rw [a1, b1]
  have m18 : μ1.1 18 = 0 := b2.1 18 (by simp)
  have m19 : μ1.1 19 = 0 := b2.1 19 (by simp)
  have m11 : μ1.1 11 = w := b2.1 11 (by simp)
  have c22 : σ1.1 22 = 0 := a2.1 22 (by simp)
  have c23 : σ1.1 23 = 0 := a2.1 23 (by simp)
  have c24 : σ1.1 24 = w := a2.1 24 (by simp)
  rw [zrow_e (by omega) (by omega)]
  simp only [Option.bind_some]
  obtain ⟨z0, z18, z19, z20, z21, z22, z23⟩ := zrow_n (μ := μ1) (t := 8) (n := 0) (m := 0) (x := 0) (y := 0) (z := 0)
  rw [m18] at z0 z18 z19 z20 z21 z22 z23
  rw [zrow_e (by rw [z0]; omega) (by rw [z0]; omega)]
  simp only [Option.bind_some]
  obtain ⟨y0, y18, y19, y20, y21, y22, y23⟩ := zrow_n (μ := zrow μ1 8 0 0 0 0 0) (t := 0) (n := 0) (m := 0) (x := 0) (y := 0) (z := 0)
  rw [z0] at y0 y18 y19 y20 y21 y22 y23
  rw [z0, m18]
  have ho := zrow_ag (μ := zrow μ1 8 0 0 0 0 0) (a := 0) (b := 0) (c := 0) (d := 0) (e := 0) (f := 0) (by rw [z0]; omega)
  rw [z0] at ho
  have o18 := ho 18 (by omega) (by omega) 0 (by omega)
  have o19 := ho 19 (by omega) (by omega) 0 (by omega)
  have o20 := ho 20 (by omega) (by omega) 0 (by omega)
  have o21 := ho 21 (by omega) (by omega) 0 (by omega)
  rw [show (0 : Int).toNat = 0 from rfl] at z18 z19 z20 z21
  rw [show ((0 : Int) + 1).toNat = 1 from rfl] at y18 y19 y20 y21
  rw [z18] at o18
  rw [z19] at o19
  rw [z20] at o20
  rw [z21] at o21
  have hfM : fM μ (zrow (zrow μ1 8 0 0 0 0 0) 0 0 0 0 0 0) := zfr_tr (zfr_F (zfr_F (zfr_F zfr_rf (by simp)) (by simp)) (by simp)) (zfr_tr (zfr_up b2 (by simp) (by simp)) (zfr_tr fM_row fM_row))
  have hfC : fC σ σ1 := zfr_tr (zfr_F (zfr_F (zfr_F zfr_rf (by simp)) (by simp)) (by simp)) (zfr_up a2 (by simp) (by simp))
  generalize hν : zrow (zrow μ1 8 0 0 0 0 0) 0 0 0 0 0 0 = ν at *
  have f16 : ν.1 16 = μ.1 16 := by rw [← hν]; exact b2.1 16 (by simp)
  have f17 : ν.1 17 = μ.1 17 := by rw [← hν]; exact b2.1 17 (by simp)
  have f19 : ν.1 19 = 0 := by rw [← hν]; exact m19
  have f11 : ν.1 11 = w := by rw [← hν]; exact m11
  have f7 : ν.1 7 = μ.1 7 := by rw [← hν]; exact b2.1 7 (by simp)
  have f217 : ν.2 17 = μ1.2 17 := by rw [← hν]; rfl
  have hcm : cutM ν = cutM μ := cutM_fr hfM (by simp) (by simp)
  have hcc : cutC σ1 = cutC σ := cutC_fr hfC (by simp) (by simp)
  have hpA := pAll_mv hcc hcm hp3
  obtain ⟨p1, p2, p3, -, -, p6⟩ := id hpA
  obtain ⟨r1, r2, r3, r4, r5, r6, r7, r8⟩ := p2
  have g00 : σ1.1 27 = μ.1 16 := by rw [hfC.1 27 |> fun _ => (show σ1.1 27 = σ.1 27 from a2.1 27 (by simp))]; exact ht
  have g25 : σ1.1 25 = ν.1 17 := by rw [f17]; exact (show σ1.1 25 = σ.1 25 from a2.1 25 (by simp)).trans hf
  have cells : ∀ i : Nat, σ1.2 18 i = if i ≤ 20 then -1 else σ.2 18 i := fun i => by
    rw [a3 i]
    by_cases q : i ≤ 20
    · rw [if_pos ⟨by omega, q⟩, if_pos q]
    · rw [if_neg (by omega), if_neg q]; rfl
  have grp : ∀ i : Nat, i ≤ 41 → ν.2 17 i = -1 := fun i hi => by rw [f217, b3 i, if_pos ⟨by omega, hi⟩]
  have hz := zit_01 (X := ν.2 20) o20 y20
  have htodo : ∀ k, ν.2 18 (zit (ν.2 20) k 1).toNat = 0 ∨ ν.2 18 (zit (ν.2 20) k 1).toNat = 8 := fun k => by
    rcases hz k 1 (Or.inr rfl) with e | e <;> rw [e]
    · exact Or.inr o18
    · exact Or.inl y18
  have hI : rI σ1 ν en fin lv ow gw kw ia (fun j q => if q = 1 ∧ j = 0 then 1 else 0) 1 1 := by
    refine ⟨⟨hpA, ?_, ?_, ?_, fun q q0 q1 => ?_, fun i hi => by rw [f19] at hi; omega⟩, ⟨by decide, by rw [y0]; decide, by rw [show (1 : Int).toNat = 1 from rfl, y18]; decide⟩, zpx_rf, ?_, fun k => ?_, fun k h7 => ?_, ?_, ?_, ?_, ?_⟩
    · obtain ⟨x1, x2, x3, x4⟩ := hx
      unfold zTx
      rw [c24, f11, f7, (show σ1.1 26 = σ.1 26 from a2.1 26 (by simp)), (show σ1.1 9 = σ.1 9 from a2.1 9 (by simp)), (show σ1.1 10 = σ.1 10 from a2.1 10 (by simp)), (show σ1.2 17 = σ.2 17 from a2.2 17 (by simp)), hfM.1 3 (by simp), hfM.1 4 (by simp), hfM.2 2 (by simp)]
      exact ⟨rfl, x1, x2, x3, hw0, by omega, x4, hp1.1, hp2.1⟩
    · refine ⟨by omega, by omega, fun i hi => ?_, fun t h => by omega, fun c h => by omega, fun c d _ h => by omega⟩
      rw [cells i]
      split
      · omega
      · exact hc i hi
    · refine ⟨by rw [f16]; exact g00, by rw [f16]; exact ht0, by rw [f16, f17]; exact ht1, g25, by rw [f17]; exact hf1, by omega, by rw [y0]; decide, ?_⟩
      rw [f19, c22]; rfl
    · rw [y0] at q1
      have hq : q = 0 ∨ q = 1 := by omega
      unfold rOK
      rcases hq with e | e
      · subst e
        rw [show (0 : Int).toNat = 0 from rfl, o18, o19, o20, o21]
        refine ⟨by decide, fun _ => by decide, fun h => absurd rfl h, fun h => absurd rfl h, fun h => absurd rfl h, fun h => absurd h (by decide), fun h => absurd h (by decide), fun h => absurd h (by decide), fun h => absurd h (by decide), fun h => absurd h (by decide), fun h => absurd h (by decide), fun h => absurd h (by decide), fun h => absurd h (by decide)⟩
      · subst e
        rw [show (1 : Int).toNat = 1 from rfl, y18, y19, y20, y21, show (0 : Int).toNat = 0 from rfl, o18]
        refine ⟨by decide, fun h => absurd h (by decide), fun _ => by decide, fun _ _ => by decide, fun _ _ _ => ⟨by decide, by have := p1.1; omega⟩, fun _ => by decide, fun _ => Or.inl ⟨r2, r3, r4, r5, ?_, ?_, ?_⟩, fun h => absurd h (by decide), fun h => absurd h (by decide), fun h => absurd h (by decide), fun h => absurd h (by decide), fun h => absurd h (by decide), fun h => absurd h (by decide)⟩
        · exact r6.symm
        · show zpx σ1 (fin (ν.2 7 (0 : Int).toNat)) 0
          rw [show (0 : Int).toNat = 0 from rfl, r7]; exact zpx_rf
        · show (0 : Int) < 2 * lv (ν.2 7 (0 : Int).toNat)
          rw [show (0 : Int).toNat = 0 from rfl, r8]; decide
    · intro k hk
      rw [grp (2 * k) (by omega), grp (2 * k + 1) (by omega), cells k, if_pos hk]
      exact ⟨rfl, fun h => absurd h (by decide), fun _ => rfl⟩
    · unfold rDyn
      rcases htodo k with e | e <;> rw [e] <;> exact dy_0 (by decide) (by decide) (by decide)
    · rcases htodo k with e | e <;> rw [e] at h7 <;> exact absurd h7 (by decide)
    · rw [f11]; exact hw0
    · have hsl : rSl ν 1 = 4 := by
        unfold rSl
        rw [show (1 : Int).toNat = 1 from rfl, y18, y19, if_neg (by decide)]
        exact if_pos (Or.inr ⟨rfl, r2⟩)
      rw [hsl, c23, zps_m1 20 (fun i hi => by rw [cells i, if_pos hi]), f16]
      show 0 + 3 * (if (1 : Int) = 1 ∧ (2 : Nat) = 0 then (1 : Int) else 0) + 0 ≤ _
      rw [if_neg (by decide)]
      omega
    · have hex : rEx ν 1 = 4 := by
        unfold rEx
        rw [show (1 : Int).toNat = 1 from rfl, y18, y19, if_pos rfl]
        exact if_pos r2
      rw [hex, y0, f16]; omega
    · rw [f19, f16]
      show 0 ≤ μ.1 16 + (if (1 : Int) = 1 ∧ (3 : Nat) = 0 then (1 : Int) else 0)
      rw [if_neg (by decide)]; omega
  have hM0 := Mc_0 hI
  have hadm := adm_bd hI
  have halt := ((p3 _ r3 r4).2.2.2.1 r5).1.1
  rw [r6] at halt
  have hMc : Mc σ1 lv ow 1 ≤ 3000000 := by
    unfold Mc
    rw [hh_lo (by rw [halt]; decide), c22, g25, f17]
    omega
  obtain ⟨v, σ2, μ2, e1, e2, e3⟩ := run (N := N) (by omega) hw0 (by have := hx.2.2.1; have := hx.1; omega) (Mc σ1 lv ow 1 * 100000 + adm ν 1).toNat σ1 ν _ 1 1 0 N N hI (by omega) (by decide) (by omega) (by omega) (by omega)
  exact ⟨v, σ2, μ2, e1, e2, rEnd_tr hfC hfM e3⟩
