/-! the two machines run alike -/
section PC
variable {N : Nat} {σ σ' μ μ' : z_S} {en fin lv ow gw kw : Int → Int} {ia : Int → Prop} {g g' : Nat → Int → Int} {r r' m p q n : Int}
theorem st_all (hN : 1000 ≤ N) (h : rI σ μ en fin lv ow gw kw ia g r p) : oS N σ μ en fin lv ow gw kw ia g r p := by
  by_cases h18 : σ.2 1 p.toNat = 18
  · exact Or.inr (Or.inl (st_pe h h18))
  · obtain ⟨hA, b1, b2, -⟩ := id h
    have hq := hA.2.2.2.2.1 r b1.1 b1.2.1
    obtain ⟨⟨-, -, -, -, -, t0, t8⟩, a2, a3, a4, a5, a6, a7, -⟩ := hq
    have h4 := b1.2.2
    have hc : μ.2 18 r.toNat = 0 ∨ μ.2 18 r.toNat = 1 ∨ μ.2 18 r.toNat = 2 ∨ μ.2 18 r.toNat = 3 ∨ μ.2 18 r.toNat = 5 ∨ μ.2 18 r.toNat = 6 ∨ μ.2 18 r.toNat = 7 ∨ μ.2 18 r.toNat = 8 := by omega
    rcases hc with c | c | c | c | c | c | c | c
    · obtain ⟨n0, n1⟩ := a5 (by omega) (by omega) (by omega)
      have h16 := (hA.1.2.2.1 _ n0 n1).1.2
      have hk : μ.2 3 (μ.2 19 r.toNat).toNat = 1 ∨ 3 ≤ μ.2 3 (μ.2 19 r.toNat).toNat := by
        rcases a7 c with ⟨k, -⟩ | ⟨k, -⟩
        · exact Or.inl k
        · exact Or.inr k
      rcases hk with k | k
      · exact Or.inl (st_ch h c k)
      · by_cases e1 : μ.2 3 (μ.2 19 r.toNat).toNat ≤ 11
        · rcases st_te hN h c k e1 h18 with w | w | w
          · exact Or.inr (Or.inr (Or.inl w))
          · exact Or.inr (Or.inr (Or.inr (Or.inl w)))
          · exact Or.inr (Or.inr (Or.inr (Or.inr (Or.inl w))))
        · by_cases e2 : μ.2 3 (μ.2 19 r.toNat).toNat = 12
          · exact Or.inr (Or.inr (Or.inl (st_gr h c e2 h18)))
          · by_cases e3 : μ.2 3 (μ.2 19 r.toNat).toNat = 13
            · exact Or.inr (Or.inr (Or.inl (st_pl h c e3 h18)))
            · by_cases e4 : μ.2 3 (μ.2 19 r.toNat).toNat = 16
              · rcases st_rp (N := N) (by omega) h c e4 h18 with w | w
                · exact Or.inr (Or.inr (Or.inl w))
                · exact Or.inr (Or.inr (Or.inr (Or.inl w)))
              · exact Or.inr (Or.inr (Or.inl (st_lo (N := N) (by omega) h c (by omega) h18)))
    · rcases st_fr (N := N) (by omega) h c h18 with w | w
      · exact Or.inr (Or.inr (Or.inl w))
      · exact Or.inr (Or.inr (Or.inr (Or.inl w)))
    · by_cases e : μ.2 19 r.toNat < 0
      · exact Or.inl (st_t2n h c e)
      · exact Or.inl (st_t2 h c (by omega))
    · exact Or.inr (Or.inr (Or.inl (st_cl h c h18)))
    · exact Or.inr (Or.inr (Or.inl (st_an hN h c h18)))
    · rcases st_re (N := N) (by omega) h c h18 with w | w | w
      · exact Or.inr (Or.inr (Or.inl w))
      · exact Or.inr (Or.inr (Or.inr (Or.inl w)))
      · exact Or.inr (Or.inr (Or.inr (Or.inr (Or.inl w))))
    · rcases st_le (N := N) h c h18 with w | w
      · exact Or.inr (Or.inr (Or.inl w))
      · exact Or.inr (Or.inr (Or.inr (Or.inr (Or.inl w))))
    · refine Or.inr (Or.inr (Or.inr (Or.inr (Or.inr ⟨c, ?_⟩))))
      rw [zpx_no b2 h18]
      exact (a2 c).1
theorem rSub_top (hA : rAll σ μ en fin lv ow gw kw ia g r) : ∀ (d i : Nat), (i : Int) + d + 1 = μ.1 19 → rSub μ (μ.2 24 i) r := by
  intro d
  induction d with
  | zero => intro i hi; exact (rAll_top hA (by omega)).1
  | succ d ih =>
    intro i hi
    have h := hA.2.2.2.2.2 i (by omega)
    have hs := h.2.2.2.2.1
    rw [if_pos (by omega)] at hs
    exact rSub_tr hs (ih (i + 1) (by omega))
/-- both go back -/
theorem rPop (hN : 50000 ≤ N) (h : rF σ μ en fin lv ow gw kw ia g r) :
    (zMachine_nextChoice N σ = some (-2, σ) ∧ ∃ μ', zMod_pop N μ = some (-1, μ') ∧ fM μ μ' ∧ μ'.1 16 = μ.1 16) ∨
    ∃ p' σ' r' μ', zMachine_nextChoice N σ = some (p', σ') ∧ zMod_pop N μ = some (r', μ') ∧ rI σ' μ' en fin lv ow gw kw ia g r' p' ∧ fC σ σ' ∧ fM μ μ' ∧ σ'.1 22 = σ.1 22 - 1 ∧ σ'.1 27 = σ.1 27 ∧ cutC σ' = cutC σ := by
  obtain ⟨hA, hr, hl, h18, h23, h19⟩ := h
  obtain ⟨N1, N2, N3, N4, N5, N6, N7, N8⟩ := id hA.2.2.2.1
  obtain ⟨T1, T2, T3, T4, T5, T6, T7, T8, T9⟩ := id hA.2.1
  have hent := hA.2.2.2.2.2
  obtain ⟨υ, u1, u2, u3, u4, u5⟩ := zpop_e (N := N) (m := (μ.1 19).toNat) (μ := μ) (by omega) (by omega) (by omega) (fun i hi => (hent i (by omega)).1.1)
  rcases zci_tp (μ.2 26) (μ.1 19).toNat with ⟨c1, c2⟩ | ⟨i, i1, i2, i3, i4, i5⟩
  · left
    rw [c1] at u1
    refine ⟨znext_no (by omega), υ, ?_, zfr_up u2 (by simp) (by simp), u2.1 16 (by simp)⟩
    rw [u1, if_pos rfl]
  · right
    have hle := zci_le (μ.2 26) (μ.1 19).toNat
    obtain ⟨φ, d1, d2, d3, d4, d5, d6, d7, d8⟩ := znext_e (N := N) (σ := σ) (by omega) hA.2.2.1 (by omega) (by omega) (by omega)
    have hci : (σ.1 22 - 1).toNat = zci (μ.2 26) i := by omega
    rw [hci] at d1 d5 d6 d7
    have u5' := u5 (by omega)
    rw [i2, show i + 1 - 1 = i by omega] at u1 u3 u5'
    rw [if_neg (by omega)] at u1
    obtain ⟨⟨a1, a2, a3⟩, a4, a5, a6, a7, a8, a9⟩ := hent i (by omega)
    obtain ⟨b1, b2, b3, b4, b5, b6, b7, b8⟩ := a9 i3
    have hc : cutC φ = cutC σ := cutC_fr d3 (by simp) (by simp)
    have hm : cutM υ = cutM μ := cutM_fr u2 (by simp) (by simp)
    have h2 : ∀ j, 18 ≤ j → j ≤ 27 → υ.2 j = μ.2 j := fun j j1 j2 => u2.2 j (by simp; omega)
    have hTx : zTx φ υ := by
      unfold zTx
      rw [d6, u5'.1, b2, d3.1 26 (by simp), u2.1 7 (by simp), d3.1 9 (by simp), d3.1 10 (by simp), u2.1 3 (by simp), u2.1 4 (by simp), d3.2 17 (by simp), u2.2 2 (by simp)]
      exact ⟨rfl, T2, T3, T4, b4, by omega, T7, T8, T9⟩
    have hAll : rAll φ υ en fin lv ow gw kw ia g (μ.2 24 i) := rAll_cut (i := i) hA (by omega) hc hm h2 (u2.1 18 (by simp)) (u2.1 16 (by simp)) (u2.1 17 (by simp)) (u2.1 7 (by simp)) u3 ⟨d3.2 19 (by simp), d3.2 20 (by simp), d3.2 21 (by simp)⟩ (by rw [d4]; omega) (d3.1 27 (by simp)) (d3.1 25 (by simp)) d8 d2 hTx (fun j hj => by
      have := (hent j (by omega)).2.2.2.2.1
      rw [if_pos (by omega), hj] at this
      exact this)
    have hv : rV υ (μ.2 24 i) := ⟨a1, by rw [u2.1 18 (by simp)]; exact a2, by rw [h2 18 (by omega) (by omega)]; exact a3⟩
    have hlk0 : rLks σ μ en (μ.2 24 i) := rLks_sub (rSub_top hA ((μ.1 19).toNat - i - 1) i (by omega)) hl
    have hlk : rLks φ υ en (μ.2 24 i) := rLks_ag hc hm (fun j j1 j2 k _ => by rw [h2 j j1 (by omega)]) hA.2.2.2.2.1 ⟨a1, a2, a3⟩ (fun k hk => by rw [u3]; exact a8 k hk) (fun j _ _ => by rw [h2 24 (by omega) (by omega), h2 26 (by omega) (by omega)]; exact ⟨rfl, rfl⟩) (fun k _ => by rw [d3.2 23 (by simp), d3.2 24 (by simp)]; exact ⟨rfl, rfl⟩) hlk0
    have hlv : rLive φ υ en (φ.2 18) (υ.1 16) (μ.2 24 i) := by
      rw [d7, u2.1 16 (by simp)]
      exact rLive_fr hc hm (fun j j1 j2 => h2 j j1 (by omega)) (Int.le_refl _) b7
    refine ⟨_, φ, _, υ, d1, u1, ⟨hAll, hv, ?_, ?_, hlv, hlk, ?_, ?_, ?_, ?_⟩, zfr_up d3 (by simp) (by simp), zfr_up u2 (by simp) (by simp), d4, d3.1 27 (by simp), hc⟩
    · unfold zpx at b1 ⊢
      rw [d3.2 1 (by simp), d3.2 2 (by simp), d3.1 4 (by simp)]; exact b1
    · rw [d7, u2.1 7 (by simp)]
      intro k hk
      rw [u5'.2 (2 * k) (by omega), u5'.2 (2 * k + 1) (by omega)]
      exact b6 k hk
    · rw [u5'.1]; exact b3
    · have e1 : (if μ.2 18 (μ.2 24 i).toNat = 5 then (-1 : Int) else 0) ≤ rSl υ (μ.2 24 i) := by
        unfold rSl
        rw [h2 18 (by omega) (by omega)]
        split
        · omega
        · split <;> omega
      rw [d7, d5, u2.1 16 (by simp)]
      omega
    · have := rEx_0 (μ := υ) (r := μ.2 24 i)
      rw [u2.1 18 (by simp), u2.1 16 (by simp)]
      omega
    · rw [u3, u2.1 16 (by simp)]; exact a6
/-- what the two have come to -/
def rEnd (σ μ σ' μ' : z_S) (v : Int) : Prop := fC σ σ' ∧ fM μ μ' ∧ σ'.1 27 = μ'.1 16 ∧ (∀ i : Nat, i < 263 → -1 ≤ σ'.2 18 i ∧ σ'.2 18 i ≤ 60000) ∧ (v = 0 ∨ v = 1 ∨ v = 2) ∧ (0 ≤ μ'.1 16 ∧ μ'.1 16 ≤ μ'.1 17) ∧
  (v = 1 → ∀ k : Nat, k ≤ 20 → σ'.2 18 k = μ'.2 17 (2 * k) ∧ (0 ≤ σ'.2 18 k → σ'.2 18 (21 + k) = μ'.2 17 (2 * k + 1)) ∧ (σ'.2 18 k < 0 → μ'.2 17 (2 * k + 1) = -1))
theorem rEnd_tr {σ1 μ1 : z_S} {v : Int} (h1 : fC σ σ1) (h2 : fM μ μ1) (h : rEnd σ1 μ1 σ' μ' v) : rEnd σ μ σ' μ' v := ⟨zfr_tr h1 h.1, zfr_tr h2 h.2.1, h.2.2⟩
theorem adm_bd (h : rI σ μ en fin lv ow gw kw ia g r p) : 0 ≤ adm μ r ∧ adm μ r < 99000 := by
  have hb := rBd h
  have h1 := hb.1.1
  have h2 := hb.1.2.1
  have h3 := hb.2.2.2.1.1
  unfold adm
  split
  · split <;> omega
  · split
    · split <;> omega
    · split <;> omega
theorem Mc_0 (h : rI σ μ en fin lv ow gw kw ia g r p) : 0 ≤ Mc σ lv ow p := by
  have hb := rBd h
  have := (hh_bd σ lv ow p).1
  have h1 := hb.2.2.2.2.2.1.1
  have h2 := hb.2.2.2.2.2.2.2.2
  unfold Mc
  omega
theorem run (hN : 50000 ≤ N) {w : Int} (hw0 : 0 ≤ w) (hw1 : w ≤ 600) : ∀ (V : Nat) (σ μ : z_S) (g : Nat → Int → Int) (r p x : Int) (n1 n2 : Nat), rI σ μ en fin lv ow gw kw ia g r p → Mc σ lv ow p * 100000 + adm μ r ≤ V → 0 ≤ x → x + Mc σ lv ow p ≤ 3999990 → V + 3 ≤ n1 → 2 * V + 3 ≤ n2 →
    ∃ v σ' μ', zMachine_tryAt_l44 N n1 w p x σ = some (v, σ') ∧ zMod_tryAt_l57 N n2 w r μ = some (v, μ') ∧ rEnd σ μ σ' μ' v := by
  intro V
  induction V using Nat.strongRecOn with
  | ind V ih =>
    intro σ μ g r p x n1 n2 hI hV hx0 hx1 hn1 hn2
    have hb := rBd hI
    have hM0 := Mc_0 hI
    have hadm := adm_bd hI
    have hNum := hI.1.2.2.2.1
    rcases st_all (N := N) (by omega) hI with ⟨r', μ', g', e1, e2, e3, e4, e5⟩ | ⟨p', e1, e2, e3⟩ | ⟨k, p', σ', r', μ', g', hk, e1, e2, e3, e4, e5, e6⟩ | ⟨k, σ', μ', hk, e1, e2, e3, e4, e5, e6, e7⟩ | ⟨σ', μ', r', g', e1, e2, e3, e4, e5, e6⟩ | ⟨e1, e2⟩
    · -- the reference alone
      obtain ⟨v, σ2, μ2, q1, q2, q3⟩ := ih (V - 1) (by omega) σ μ' g' r' p x n1 (n2 - 1) e2 (by omega) hx0 hx1 (by omega) (by omega)
      refine ⟨v, σ2, μ2, q1, ?_, rEnd_tr zfr_rf e3 q3⟩
      rw [← q2, ← e1 (n2 - 1) w, show n2 - 1 + 1 = n2 by omega]
    · have hM1 := Mc_0 e2
      obtain ⟨v, σ2, μ2, q1, q2, q3⟩ := ih (V - 1) (by omega) σ μ g r p' (x + 1) (n1 - 1) n2 e2 (by omega) (by omega) (by omega) (by omega) (by omega)
      refine ⟨v, σ2, μ2, ?_, q2, q3⟩
      rw [← q1, ← e1 (n1 - 1) w x hx0 (by omega), show n1 - 1 + 1 = n1 by omega]
    · have hM1 := Mc_0 e3
      have ha1 := adm_bd e3
      obtain ⟨v, σ2, μ2, q1, q2, q3⟩ := ih (V - 1) (by omega) σ' μ' g' r' p' (x + 1) (n1 - 1) (n2 - k) e3 (by omega) (by omega) (by omega) (by omega) (by omega)
      refine ⟨v, σ2, μ2, ?_, ?_, rEnd_tr e4 e5 q3⟩
      · rw [← q1, ← e1 (n1 - 1) w x hx0 (by omega), show n1 - 1 + 1 = n1 by omega]
      · rw [← q2, ← e2 (n2 - k) w, show n2 - k + k = n2 by omega]
    · obtain ⟨n, rfl⟩ : ∃ n, n1 = n + 1 + 1 := ⟨n1 - 2, by omega⟩
      have h17 : μ'.1 17 = μ.1 17 := e4.1 17 (by simp)
      refine ⟨2, σ', μ', ?_, ?_, e3, e4, e5, e6, by decide, ?_, fun z => absurd z (by decide)⟩
      · rw [e1 (n + 1) w x hx0 (by omega), zMachine_tryAt_l44_s, if_neg (by omega), if_pos (by decide), if_neg (by decide), if_neg (by decide)]
      · have := e2 (n2 - k) w
        rw [show n2 - k + k = n2 by omega] at this
        exact this
      · rw [h17, e7]; exact ⟨hNum.2.1, hNum.2.2.1⟩
    · obtain ⟨n, rfl⟩ : ∃ n, n1 = n + 1 + 1 := ⟨n1 - 2, by omega⟩
      obtain ⟨m, rfl⟩ : ∃ m, n2 = m + 1 + 1 := ⟨n2 - 2, by omega⟩
      have hc25 : σ'.1 25 = σ.1 25 := e4.1 25 (by simp)
      rcases rPop hN e3 with ⟨q1, μ2, q2, q3, q4⟩ | ⟨p2, σ2, r2, μ2, q1, q2, q3, q4, q5, q6, q7, q8⟩
      · obtain ⟨M1, M2, M3, -⟩ := e3.1.2.2.2.1
        refine ⟨0, σ', μ2, ?_, ?_, e4, zfr_tr e5 q3, by rw [q4]; exact M1, e3.1.2.2.1.2.2.1, by decide, ⟨by rw [q4]; exact M2, by rw [q4, q3.1 17 (by simp)]; exact M3⟩, fun z => absurd z (by decide)⟩
        · rw [e1 (n + 1) w x hx0 (by omega), q1]
          simp only [Option.bind_some]
          rw [zMachine_tryAt_l44_s, if_neg (by omega), if_pos (by decide), if_neg (by decide), if_pos rfl]
        · rw [e2 (m + 1) w, q2]
          simp only [Option.bind_some]
          rw [zMod_tryAt_l57_s, if_pos (by decide), if_neg (by decide)]
      · have hM1 := Mc_0 q3
        have ha1 := adm_bd q3
        have hlt : Mc σ2 lv ow p2 < Mc σ lv ow p := by
          have := (hh_bd σ2 lv ow p2).2
          have h25 : σ2.1 25 = σ'.1 25 := q4.1 25 (by simp)
          have : Mc σ2 lv ow p2 = 300 * (σ2.1 25 - σ2.1 27) + 60 * σ2.1 22 + hh σ2 lv ow p2 := rfl
          omega
        obtain ⟨v, σ3, μ3, s1, s2, s3⟩ := ih (V - 1) (by omega) σ2 μ2 g' r2 p2 (x + 1) (n + 1) (m + 1) q3 (by omega) (by omega) (by omega) (by omega) (by omega)
        refine ⟨v, σ3, μ3, ?_, ?_, rEnd_tr (zfr_tr e4 q4) (zfr_tr e5 q5) s3⟩
        · rw [e1 (n + 1) w x hx0 (by omega), q1]
          exact s1
        · rw [e2 (m + 1) w, q2]
          exact s2
    · subst e2
      obtain ⟨n, rfl⟩ : ∃ n, n1 = n + 1 + 1 := ⟨n1 - 2, by omega⟩
      obtain ⟨m, rfl⟩ : ∃ m, n2 = m + 1 := ⟨n2 - 1, by omega⟩
      obtain ⟨hA, b1, b2, b3, -⟩ := id hI
      have hkind : σ.2 1 (0 : Int).toNat = 0 := hA.1.2.1.1
      have hcs := zCs_of (zP_0 (N := N) (p := 0) (σ := σ) (by decide) (by decide) hkind) (by decide) (by decide)
      obtain ⟨T1, T2, T3, T4, T5, T6, T7, T8, T9⟩ := id hA.2.1
      refine ⟨1, zA (zA σ 18 0 w) 18 21 (σ.1 24), zA (zA μ 17 0 w) 17 1 (μ.1 11), ?_, ?_, zfr_A (zfr_A zfr_rf (by simp)) (by simp), zfr_A (zfr_A zfr_rf (by simp)) (by simp), hNum.1, ?_, by decide, ⟨hNum.2.1, hNum.2.2.1⟩, fun _ k hk => ?_⟩
      · rw [hcs (n + 1) w x hx0 (by omega), zMachine_tryAt_l44_s, if_neg (by omega), if_pos (by decide), if_pos rfl, zrw (by decide) (by decide) (by decide)]
        simp only [Option.bind_some]
        rw [zrw (by decide) (by decide) (by decide)]
        rfl
      · rw [zMod_tryAt_l57_s, if_neg (by have := hb.1.1; omega), if_pos (show zIn r 90000 from ⟨hb.1.1, by have := hb.2.2.2.1; omega⟩), if_pos e1, if_pos hb.1.1, if_pos (by decide), if_pos (by decide)]
        rfl
      · intro i hi
        have hci := hA.2.2.1.2.2.1 i hi
        show -1 ≤ zupd (zupd (σ.2 18) 0 w) 21 (σ.1 24) i ∧ zupd (zupd (σ.2 18) 0 w) 21 (σ.1 24) i ≤ 60000
        rw [zupd_e, zupd_e]
        split
        · omega
        · split <;> omega
      · show zupd (zupd (σ.2 18) 0 w) 21 (σ.1 24) k = zupd (zupd (μ.2 17) 0 w) 1 (μ.1 11) (2 * k) ∧ (0 ≤ zupd (zupd (σ.2 18) 0 w) 21 (σ.1 24) k → zupd (zupd (σ.2 18) 0 w) 21 (σ.1 24) (21 + k) = zupd (zupd (μ.2 17) 0 w) 1 (μ.1 11) (2 * k + 1)) ∧ (zupd (zupd (σ.2 18) 0 w) 21 (σ.1 24) k < 0 → zupd (zupd (μ.2 17) 0 w) 1 (μ.1 11) (2 * k + 1) = -1)
        by_cases e : k = 0
        · subst e
          rw [zupd_n (show 0 ≠ 21 by omega), zupd_s, show 2 * 0 = 0 from rfl, zupd_n (show 0 ≠ 1 by omega), zupd_s, show 21 + 0 = 21 from rfl, zupd_s, show 0 + 1 = 1 from rfl, zupd_s]
          exact ⟨rfl, fun _ => T1, fun z => by omega⟩
        · obtain ⟨f1, f2, f3⟩ := b3 k hk
          rw [zupd_n (show k ≠ 21 by omega), zupd_n e, zupd_n (show 2 * k ≠ 1 by omega), zupd_n (show 2 * k ≠ 0 by omega), zupd_n (show 21 + k ≠ 21 by omega), zupd_n (show 21 + k ≠ 0 by omega), zupd_n (show 2 * k + 1 ≠ 1 by omega), zupd_n (show 2 * k + 1 ≠ 0 by omega)]
          exact ⟨f1, fun z => (f2 z).1, f3⟩
end PC
