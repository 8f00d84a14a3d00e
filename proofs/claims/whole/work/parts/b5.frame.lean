/-! what stays when rows are added, when the pile grows, when steps are counted -/
def rV (μ : z_S) (q : Int) : Prop := 0 ≤ q ∧ q < μ.1 18 ∧ μ.2 18 q.toNat ≠ 4
section FR
variable {σ σ' μ μ' : z_S} {en fin lv ow gw kw : Int → Int} {ia : Int → Prop} {g g' : Nat → Int → Int}
theorem rOK_next {q : Int} (h : rOK σ μ en fin lv ia g q) (hq : 0 ≤ q) (hr : q < μ.1 18) (h4 : μ.2 18 q.toNat ≠ 4) : rV μ (μ.2 20 q.toNat) ∧ μ.2 20 q.toNat ≤ q ∧ g 1 (μ.2 20 q.toNat) ≤ g 1 q ∧ (μ.2 18 q.toNat ≠ 8 → μ.2 20 q.toNat < q) := by
  obtain ⟨h1, h2, h3, h5, h6, h7, h8, h9, h10, h11, h12, h13, h14⟩ := h
  by_cases e : μ.2 18 q.toNat = 8
  · obtain ⟨k0, k1, k2, k3, k4, k5, k6⟩ := h2 e
    subst k5
    rw [k6]
    exact ⟨⟨Int.le_refl _, hr, h4⟩, Int.le_refl _, Int.le_refl _, fun z => absurd e z⟩
  · obtain ⟨k1, k2⟩ := h3 e
    refine ⟨⟨k1, by omega, (h5 e h4).1⟩, by omega, ?_, fun _ => k2⟩
    have hc : μ.2 18 q.toNat = 0 ∨ μ.2 18 q.toNat = 1 ∨ μ.2 18 q.toNat = 2 ∨ μ.2 18 q.toNat = 3 ∨ μ.2 18 q.toNat = 5 ∨ μ.2 18 q.toNat = 6 ∨ μ.2 18 q.toNat = 7 := by omega
    rcases hc with c | c | c | c | c | c | c
    · have := h7 (by omega); exact Int.le_of_eq this.1.symm
    · have := h7 (by omega); exact Int.le_of_eq this.1.symm
    · have := h7 (by omega); exact Int.le_of_eq this.1.symm
    · have := h11 c; exact Int.le_of_lt this.2.2.2.1
    · have := h7 (by omega); exact Int.le_of_eq this.1.symm
    · have := h13 c; exact Int.le_of_lt this.2.2.2.1
    · have := h14 c; exact Int.le_of_lt this.2.2.2.1
theorem zit_V (hA : ∀ q, 0 ≤ q → q < μ.1 18 → rOK σ μ en fin lv ia g q) : ∀ (k : Nat) (r : Int), rV μ r → rV μ (zit (μ.2 20) k r) ∧ zit (μ.2 20) k r ≤ r ∧ g 1 (zit (μ.2 20) k r) ≤ g 1 r := by
  intro k
  induction k with
  | zero => intro r h; exact ⟨h, Int.le_refl _, Int.le_refl _⟩
  | succ k ih =>
    intro r h
    obtain ⟨a1, a2, a3, a4⟩ := rOK_next (hA r h.1 h.2.1) h.1 h.2.1 h.2.2
    obtain ⟨b1, b2, b3⟩ := ih _ a1
    exact ⟨b1, Int.le_trans b2 a2, Int.le_trans b3 a3⟩
/-- the old rows are as they were -/
def oAg (R : Int) (μ μ' : z_S) : Prop := ∀ j, 18 ≤ j → j ≤ 23 → ∀ i : Nat, (i : Int) < R → μ'.2 j i = μ.2 j i
theorem zit_ag (hA : ∀ q, 0 ≤ q → q < μ.1 18 → rOK σ μ en fin lv ia g q) (ho : oAg (μ.1 18) μ μ') : ∀ (k : Nat) (r : Int), rV μ r → zit (μ'.2 20) k r = zit (μ.2 20) k r := by
  intro k
  induction k with
  | zero => intro r _; rfl
  | succ k ih =>
    intro r h
    have e : μ'.2 20 r.toNat = μ.2 20 r.toNat := ho 20 (by omega) (by omega) r.toNat (by have := h.1; have := h.2.1; omega)
    show zit (μ'.2 20) k (μ'.2 20 r.toNat) = zit (μ.2 20) k (μ.2 20 r.toNat)
    rw [e]
    exact ih _ (rOK_next (hA r h.1 h.2.1) h.1 h.2.1 h.2.2).1
theorem rOK_ag (hc : cutC σ' = cutC σ) (hm : cutM μ' = cutM μ) (h7 : μ'.1 7 = μ.1 7) (ho : oAg (μ.1 18) μ μ') (hg : ∀ j q, 0 ≤ q → q < μ.1 18 → g' j q = g j q) (hA : ∀ q, 0 ≤ q → q < μ.1 18 → rOK σ μ en fin lv ia g q) {q : Int} (h0 : 0 ≤ q) (h1 : q < μ.1 18) : rOK σ' μ' en fin lv ia g' q := by
  have h := hA q h0 h1
  have hmm : 0 ≤ μ.2 20 q.toNat ∧ μ.2 20 q.toNat < μ.1 18 := by
    by_cases e : μ.2 18 q.toNat = 8
    · have := h.2.1 e; omega
    · have := h.2.2.1 e; omega
  have e18 := ho 18 (by omega) (by omega) q.toNat (by omega)
  have e19 := ho 19 (by omega) (by omega) q.toNat (by omega)
  have e20 := ho 20 (by omega) (by omega) q.toNat (by omega)
  have e21 := ho 21 (by omega) (by omega) q.toNat (by omega)
  have e18m := ho 18 (by omega) (by omega) (μ.2 20 q.toNat).toNat (by omega)
  unfold rOK at h ⊢
  rw [e18, e19, e20, e21, e18m, h7, ← rOKd_cut, hc, hm, rOKd_cut]
  rw [show (fun j => g' j q) = fun j => g j q from funext fun j => hg j q h0 h1, show (fun j => g' j (μ.2 20 q.toNat)) = fun j => g j (μ.2 20 q.toNat) from funext fun j => hg j _ hmm.1 hmm.2]
  exact h
theorem rDynd_up {c : Nat → Int} {T T' t n x y z : Int} (hT : T ≤ T') (h : rDynd σ μ en c T t n x y z) : rDynd σ μ en c T' t n x y z := ⟨h.1, fun k => by
  obtain ⟨a, b, d⟩ := h.2.1 k
  exact ⟨a, Int.le_trans b hT, d⟩, h.2.2⟩
theorem rLive_ag (hc : cutC σ' = cutC σ) (hm : cutM μ' = cutM μ) (ho : oAg (μ.1 18) μ μ') (hA : ∀ q, 0 ≤ q → q < μ.1 18 → rOK σ μ en fin lv ia g q) {c : Nat → Int} {T T' r : Int} (hr : rV μ r) (hT : T ≤ T') (h : rLive σ μ en c T r) : rLive σ' μ' en c T' r := by
  intro k
  rw [zit_ag hA ho k r hr]
  have hv := (zit_V hA k r hr).1
  have hk := h k
  have hh : ((zit (μ.2 20) k r).toNat : Int) < μ.1 18 := by have := hv.1; have := hv.2.1; omega
  unfold rDyn at hk ⊢
  rw [ho 18 (by omega) (by omega) _ hh, ho 19 (by omega) (by omega) _ hh, ho 21 (by omega) (by omega) _ hh, ho 22 (by omega) (by omega) _ hh, ho 23 (by omega) (by omega) _ hh, ← rDynd_cut, hc, hm, rDynd_cut]
  exact rDynd_up hT hk
theorem rSub_ag (ho : oAg (μ.1 18) μ μ') (hA : ∀ q, 0 ≤ q → q < μ.1 18 → rOK σ μ en fin lv ia g q) {a b : Int} (ha : rV μ a) (hb : rV μ b) (h : rSub μ a b) : rSub μ' a b := by
  intro k
  rw [zit_ag hA ho k a ha]
  have hv := (zit_V hA k a ha).1
  rw [ho 18 (by omega) (by omega) _ (by have := hv.1; have := hv.2.1; omega)]
  intro h7
  obtain ⟨l, hl⟩ := h k h7
  exact ⟨l, by rw [zit_ag hA ho l b hb]; exact hl⟩
theorem rSub_rf {a : Int} : rSub μ a a := fun k _ => ⟨k, rfl⟩
theorem rSub_tr {a b c : Int} (h1 : rSub μ a b) (h2 : rSub μ b c) : rSub μ a c := fun k hk => by
  obtain ⟨l, hl⟩ := h1 k hk
  obtain ⟨l2, hl2⟩ := h2 l (by rw [hl]; exact hk)
  exact ⟨l2, hl2.trans hl⟩
/-- the next row's looks are among a row's -/
theorem rSub_next {r : Int} : rSub μ (μ.2 20 r.toNat) r := fun k _ => ⟨k + 1, rfl⟩
/-- a row that isn't a look has the next one's looks alone -/
theorem rSub_cons {r : Int} (h7 : μ.2 18 r.toNat ≠ 7) : rSub μ r (μ.2 20 r.toNat) := fun k hk => by
  cases k with
  | zero => exact absurd hk h7
  | succ k => exact ⟨k, rfl⟩
theorem rLive_next {c : Nat → Int} {T r : Int} (h : rLive σ μ en c T r) : rLive σ μ en c T (μ.2 20 r.toNat) := fun k => h (k + 1)
theorem rLive_cons {c : Nat → Int} {T r : Int} (h0 : rDyn σ μ en c T r) (h : rLive σ μ en c T (μ.2 20 r.toNat)) : rLive σ μ en c T r := fun k => by
  cases k with
  | zero => exact h0
  | succ k => exact h k
theorem rLks_next {r : Int} (h : rLks σ μ en r) : rLks σ μ en (μ.2 20 r.toNat) := fun k => h (k + 1)
theorem rLks_cons {r : Int} (h0 : rLk σ μ en r) (h : rLks σ μ en (μ.2 20 r.toNat)) : rLks σ μ en r := fun k => by
  cases k with
  | zero => exact h0
  | succ k => exact h k
theorem rLks_sub {a b : Int} (hs : rSub μ a b) (h : rLks σ μ en b) : rLks σ μ en a := fun k h7 => by
  obtain ⟨l, hl⟩ := hs k h7
  have := h l
  rw [hl] at this
  exact this h7
/-- the looks that are open, when the pile keeps what is below -/
theorem rLks_ag (hc : cutC σ' = cutC σ) (hm : cutM μ' = cutM μ) (ho : oAg (μ.1 18) μ μ') (hA : ∀ q, 0 ≤ q → q < μ.1 18 → rOK σ μ en fin lv ia g q) {r : Int} (hr : rV μ r) (hp : ∀ k, μ.2 18 (zit (μ.2 20) k r).toNat = 7 → μ.2 22 (zit (μ.2 20) k r).toNat ≤ μ'.1 19)
    (h24 : ∀ i : Nat, (i : Int) < μ'.1 19 → (i : Int) < μ.1 19 → μ'.2 24 i = μ.2 24 i ∧ μ'.2 26 i = μ.2 26 i) (hl : ∀ k, μ.2 18 (zit (μ.2 20) k r).toNat = 7 → σ'.2 23 (σ.2 3 (en (μ.2 19 (zit (μ.2 20) k r).toNat)).toNat).toNat = σ.2 23 (σ.2 3 (en (μ.2 19 (zit (μ.2 20) k r).toNat)).toNat).toNat ∧ σ'.2 24 (σ.2 3 (en (μ.2 19 (zit (μ.2 20) k r).toNat)).toNat).toNat = σ.2 24 (σ.2 3 (en (μ.2 19 (zit (μ.2 20) k r).toNat)).toNat).toNat) (h : rLks σ μ en r) : rLks σ' μ' en r := by
  intro k
  rw [zit_ag hA ho k r hr]
  have hv := (zit_V hA k r hr).1
  have hh : ((zit (μ.2 20) k r).toNat : Int) < μ.1 18 := by have := hv.1; have := hv.2.1; omega
  have e3 : σ'.2 3 = σ.2 3 := by have := congrArg (fun z : z_S => z.2 3) hc; exact this
  have m3 : μ'.2 3 = μ.2 3 := by have := congrArg (fun z : z_S => z.2 3) hm; exact this
  have hk := h k
  have hpk := hp k
  have hlk := hl k
  unfold rLk at hk ⊢
  rw [ho 18 (by omega) (by omega) _ hh, ho 19 (by omega) (by omega) _ hh, ho 20 (by omega) (by omega) _ hh, ho 21 (by omega) (by omega) _ hh, ho 22 (by omega) (by omega) _ hh, e3, m3]
  intro h7
  obtain ⟨a1, a2, a3, a4, a5, a6⟩ := hk h7
  have b1 := hpk h7
  obtain ⟨b2, b3⟩ := hlk h7
  obtain ⟨c1, c2⟩ := h24 (μ.2 22 (zit (μ.2 20) k r).toNat - 1).toNat (by omega) (by omega)
  rw [c1, c2, b2, b3]
  refine ⟨a1, b1, a3, a4, ?_, a6⟩
  rw [a5]
  congr 1
  exact (zci_eq (fun i hi => (h24 i (by omega) (by omega)).2)).symm
end FR
/-- a new row's meaning -/
def gup (g : Nat → Int → Int) (R a0 a1 a2 a3 a4 : Int) : Nat → Int → Int := fun j q => if q = R then (if j = 0 then a0 else if j = 1 then a1 else if j = 2 then a2 else if j = 3 then a3 else a4) else g j q
theorem zrow_at {μ : z_S} {a b c d e f : Int} : (zrow μ a b c d e f).1 18 = μ.1 18 + 1 ∧ (zrow μ a b c d e f).2 18 = zupd (μ.2 18) (μ.1 18).toNat a ∧ (zrow μ a b c d e f).2 19 = zupd (μ.2 19) (μ.1 18).toNat b ∧ (zrow μ a b c d e f).2 20 = zupd (μ.2 20) (μ.1 18).toNat c ∧
    (zrow μ a b c d e f).2 21 = zupd (μ.2 21) (μ.1 18).toNat d ∧ (zrow μ a b c d e f).2 22 = zupd (μ.2 22) (μ.1 18).toNat e ∧ (zrow μ a b c d e f).2 23 = zupd (μ.2 23) (μ.1 18).toNat f := ⟨rfl, rfl, rfl, rfl, rfl, rfl, rfl⟩
theorem zrow_ag {μ : z_S} {a b c d e f : Int} (h : 0 ≤ μ.1 18) : oAg (μ.1 18) μ (zrow μ a b c d e f) := by
  intro j h1 h2 i hi
  have hne : i ≠ (μ.1 18).toNat := by omega
  have hj : j = 18 ∨ j = 19 ∨ j = 20 ∨ j = 21 ∨ j = 22 ∨ j = 23 := by omega
  rcases hj with e | e | e | e | e | e <;> subst e <;> exact zupd_n hne
