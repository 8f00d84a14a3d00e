section CH
variable {σ μ : z_S} {en fin lv ow gw kw : Int → Int} {ia : Int → Prop} {g : Nat → Int → Int} {r : Int}
/-- the class's node that a row stands for is a node, and no plain parenthesis's end -/
theorem rPn (hp : pAll σ μ en fin lv ow gw kw ia) (hA : ∀ q, 0 ≤ q → q < μ.1 18 → rOK σ μ en fin lv ia g q) : ∀ (b : Nat) (q : Int), q < b → rV μ q → 0 ≤ g 0 q ∧ g 0 q < 602 ∧ σ.2 1 (g 0 q).toNat ≠ 18 := by
  intro b
  induction b with
  | zero => intro q h1 h2; have := h2.1; omega
  | succ b ih =>
    intro q h1 hv
    have hq := hA q hv.1 hv.2.1
    obtain ⟨p1, p2, p3, p4, p5⟩ := hp
    have hv4 := hv.2.2
    have hnx := rOK_next hq hv.1 hv.2.1 hv.2.2
    obtain ⟨a1, a2, a3, a4, a5, a6, a7, a8, a9, a10, a11, a12, a13⟩ := hq
    have hc : μ.2 18 q.toNat = 0 ∨ μ.2 18 q.toNat = 1 ∨ μ.2 18 q.toNat = 2 ∨ μ.2 18 q.toNat = 3 ∨ μ.2 18 q.toNat = 5 ∨ μ.2 18 q.toNat = 6 ∨ μ.2 18 q.toNat = 7 ∨ μ.2 18 q.toNat = 8 := by omega
    have term : ∀ n, 0 ≤ n → n < μ.1 8 → 3 ≤ μ.2 3 n.toNat → 0 ≤ en n ∧ en n < 602 ∧ σ.2 1 (en n).toNat ≠ 18 := fun n n0 n1 nk => by
      obtain ⟨q1, q2, q3, q4, q5, q6, q7⟩ := p3 n n0 n1
      obtain ⟨t3, t4, t5, t6, t7, t8, t9, t10, t11⟩ := q3
      have hb := q2 (by omega)
      refine ⟨by omega, by omega, ?_⟩
      have hk : μ.2 3 n.toNat = 3 ∨ μ.2 3 n.toNat = 4 ∨ μ.2 3 n.toNat = 5 ∨ μ.2 3 n.toNat = 6 ∨ μ.2 3 n.toNat = 7 ∨ μ.2 3 n.toNat = 8 ∨ μ.2 3 n.toNat = 9 ∨ μ.2 3 n.toNat = 10 ∨ μ.2 3 n.toNat = 11 ∨ (12 ≤ μ.2 3 n.toNat ∧ μ.2 3 n.toNat ≤ 15) ∨ μ.2 3 n.toNat = 16 := by omega
      rcases hk with k | k | k | k | k | k | k | k | k | k | k
      · have := t3 k; omega
      · have := t4 k; omega
      · have := t5 k; omega
      · have := t6 k; omega
      · have := t7 k; omega
      · have := t8 k; omega
      · have := t9 k; omega
      · have := t10 k; omega
      · have := t11 k; omega
      · have := (q6 k.1 k.2).1; omega
      · have := (q7 k).1; omega
    have alt : ∀ n, 0 ≤ n → n < μ.1 8 → μ.2 3 n.toNat = 2 → 0 ≤ en n ∧ en n < 602 ∧ σ.2 1 (en n).toNat ≠ 18 := fun n n0 n1 nk => by
      obtain ⟨q1, q2, q3, q4, q5, q6, q7⟩ := p3 n n0 n1
      have hb := q2 (by omega)
      have := (q4 nk).1.1
      exact ⟨by omega, by omega, by omega⟩
    rcases hc with c | c | c | c | c | c | c | c
    · obtain ⟨n0, n1⟩ := a5 (by omega) (by omega) (by omega)
      rcases a7 c with ⟨k1, k2, k3, k4, k5, k6, k7⟩ | ⟨k1, k2, k3⟩
      · rw [show g 0 q = _ from k5]; exact alt _ k2 k3 k4
      · rw [show g 0 q = _ from k2]; exact term _ n0 n1 k1
    · obtain ⟨n0, n1⟩ := a5 (by omega) (by omega) (by omega)
      obtain ⟨k1, k2, k3⟩ := a8 c
      rw [show g 0 q = _ from k2]; exact alt _ n0 n1 k1
    · rcases a9 c with ⟨k1, k2⟩ | ⟨k1, k2, k3, k4, k5⟩
      · rw [show g 0 q = _ from k2]
        exact ih _ (by have := hnx.2.2.2 (by omega); omega) hnx.1
      · rw [show g 0 q = _ from k4]
        have := (((p3 _ k1 k2).2.2.2.2.1) k3).1.1
        exact term _ k1 k2 this
    · obtain ⟨n0, n1⟩ := a5 (by omega) (by omega) (by omega)
      obtain ⟨k1, k2, k3⟩ := a10 c
      have hb := (p3 _ n0 n1).2.1 (by omega)
      have := ((p3 _ n0 n1).2.2.2.2.2.1 (by omega) (by omega)).2.1
      rw [show g 0 q = _ from k2]
      exact ⟨by omega, by omega, by omega⟩
    · obtain ⟨n0, n1⟩ := a5 (by omega) (by omega) (by omega)
      obtain ⟨k1, k2, k3⟩ := a11 c
      have hb := (p3 _ n0 n1).2.1 (by omega)
      have := ((p3 _ n0 n1).2.2.2.2.2.2 k1).2.1
      rw [show g 0 q = _ from k2]
      exact ⟨by omega, by omega, by omega⟩
    · obtain ⟨n0, n1⟩ := a5 (by omega) (by omega) (by omega)
      obtain ⟨k1, k2, k3⟩ := a12 c
      have hb := (p3 _ n0 n1).2.1 (by omega)
      have := ((p3 _ n0 n1).2.2.2.2.2.2 k1).2.2.1
      rw [show g 0 q = _ from k2]
      exact ⟨by omega, by omega, by omega⟩
    · obtain ⟨n0, n1⟩ := a5 (by omega) (by omega) (by omega)
      obtain ⟨k1, k2, k3⟩ := a13 c
      have hb := (p3 _ n0 n1).2.1 (by omega)
      have := ((p3 _ n0 n1).2.2.2.2.2.1 (by omega) (by omega)).2.1
      rw [show g 0 q = _ from k2]
      exact ⟨by omega, by omega, by omega⟩
    · rw [show g 0 q = _ from (a2 c).1]
      have := p2.1
      refine ⟨by omega, by omega, ?_⟩
      show σ.2 1 (0 : Int).toNat ≠ 18
      rw [show (0 : Int).toNat = 0 from rfl, this]; omega
/-- behind the first, no row on the way enters anew -/
theorem zit_5 (hA : ∀ q, 0 ≤ q → q < μ.1 18 → rOK σ μ en fin lv ia g q) (hr : rV μ r) (k : Nat) (h : μ.2 18 (zit (μ.2 20) k r).toNat = 5) : k = 0 := by
  induction k generalizing r with
  | zero => rfl
  | succ k ih =>
    have hn := rOK_next (hA r hr.1 hr.2.1) hr.1 hr.2.1 hr.2.2
    have h0 := ih hn.1 h
    subst h0
    have hq := hA r hr.1 hr.2.1
    obtain ⟨a1, a2, a3, a4, -⟩ := hq
    by_cases e : μ.2 18 r.toNat = 8
    · obtain ⟨b0, b1, b2, b3, b4, b5, b6⟩ := a2 e
      have : μ.2 18 (μ.2 20 r.toNat).toNat = 5 := h
      subst b5
      rw [b6] at this; omega
    · exact absurd h (a4 e hr.2.2).2
/-- what is open on the way is not what is entered deeper -/
theorem zit_ne (hA : ∀ q, 0 ≤ q → q < μ.1 18 → rOK σ μ en fin lv ia g q) (hr : rV μ r) {n : Int} (hd : g 1 r < rDp μ lv n) (k : Nat) (h : μ.2 18 (zit (μ.2 20) k r).toNat = 3 ∨ μ.2 18 (zit (μ.2 20) k r).toNat = 6 ∨ μ.2 18 (zit (μ.2 20) k r).toNat = 7) :
    0 ≤ μ.2 19 (zit (μ.2 20) k r).toNat ∧ μ.2 19 (zit (μ.2 20) k r).toNat < μ.1 8 ∧ μ.2 19 (zit (μ.2 20) k r).toNat ≠ n := by
  obtain ⟨v1, v2, v3⟩ := zit_V hA k r hr
  have hq := hA _ v1.1 v1.2.1
  generalize zit (μ.2 20) k r = q at *
  obtain ⟨a1, a2, a3, a4, a5, a6, a7, a8, a9, a10, a11, a12, a13⟩ := hq
  obtain ⟨n0, n1⟩ := a5 (by omega) (by omega) (by omega)
  refine ⟨n0, n1, fun e => ?_⟩
  rw [← e] at hd
  unfold rDp at hd
  rcases h with h | h | h
  · obtain ⟨b1, b2, b3, b4, b5, b6⟩ := a10 h
    have b5 : g 1 q = _ := b5
    rw [if_neg (by omega)] at hd; omega
  · obtain ⟨b1, b2, b3, b4, b5, b6⟩ := a12 h
    have b5 : g 1 q = _ := b5
    rw [if_pos b1] at hd; omega
  · obtain ⟨b1, b2, b3, b4, b5, b6⟩ := a13 h
    have b5 : g 1 q = _ := b5
    rw [if_neg (by omega)] at hd; omega
/-- a cell is written that nothing on the way looks at -/
theorem rLive_upd {c : Nat → Int} {T v : Int} {i : Nat} (h : rLive σ μ en c T r) (h3 : ∀ k, μ.2 18 (zit (μ.2 20) k r).toNat = 3 → (42 + μ.2 4 (μ.2 19 (zit (μ.2 20) k r).toNat).toNat).toNat ≠ i)
    (h5 : ∀ k, (μ.2 18 (zit (μ.2 20) k r).toNat = 5 ∨ μ.2 18 (zit (μ.2 20) k r).toNat = 6) → (63 + σ.2 3 (en (μ.2 19 (zit (μ.2 20) k r).toNat)).toNat).toNat ≠ i) (h6 : ∀ k, μ.2 18 (zit (μ.2 20) k r).toNat = 6 → (163 + σ.2 3 (en (μ.2 19 (zit (μ.2 20) k r).toNat)).toNat).toNat ≠ i) : rLive σ μ en (zupd c i v) T r := by
  intro k
  obtain ⟨a1, a2, a3⟩ := h k
  exact ⟨fun e => by rw [zupd_n (h3 k e)]; exact a1 e, fun e => by rw [zupd_n (h5 k e)]; exact a2 e, fun e => by rw [zupd_n (h6 k e)]; exact a3 e⟩
/-- numbers of groups and repetitions on the way -/
theorem zit_num (hp : pAll σ μ en fin lv ow gw kw ia) (hA : ∀ q, 0 ≤ q → q < μ.1 18 → rOK σ μ en fin lv ia g q) (hr : rV μ r) (k : Nat) :
    (μ.2 18 (zit (μ.2 20) k r).toNat = 3 → 1 ≤ μ.2 4 (μ.2 19 (zit (μ.2 20) k r).toNat).toNat ∧ μ.2 4 (μ.2 19 (zit (μ.2 20) k r).toNat).toNat ≤ 20) ∧
    (μ.2 18 (zit (μ.2 20) k r).toNat = 5 ∨ μ.2 18 (zit (μ.2 20) k r).toNat = 6 → 0 ≤ σ.2 3 (en (μ.2 19 (zit (μ.2 20) k r).toNat)).toNat ∧ σ.2 3 (en (μ.2 19 (zit (μ.2 20) k r).toNat)).toNat < 100) := by
  obtain ⟨v1, v2, v3⟩ := zit_V hA k r hr
  have hq := hA _ v1.1 v1.2.1
  generalize zit (μ.2 20) k r = q at *
  obtain ⟨a1, a2, a3, a4, a5, a6, a7, a8, a9, a10, a11, a12, a13⟩ := hq
  refine ⟨fun h => ?_, fun h => ?_⟩
  · obtain ⟨n0, n1⟩ := a5 (by omega) (by omega) (by omega)
    have hk := (a10 h).1
    have := ((hp.2.2.1 _ n0 n1).2.2.2.2.2.1 (by omega) (by omega)).2.2.2.2.2.2.2.1 hk
    omega
  · obtain ⟨n0, n1⟩ := a5 (by omega) (by omega) (by omega)
    have hk : μ.2 3 (μ.2 19 q.toNat).toNat = 16 := by
      rcases h with h | h
      · exact (a11 h).1
      · exact (a12 h).1
    have := ((hp.2.2.1 _ n0 n1).2.2.2.2.2.2 hk).2.2.2.2.1
    omega
/-- cells below 42 are looked at by no row -/
theorem rLive_low (hp : pAll σ μ en fin lv ow gw kw ia) (hA : ∀ q, 0 ≤ q → q < μ.1 18 → rOK σ μ en fin lv ia g q) (hr : rV μ r) {c : Nat → Int} {T v : Int} {i : Nat} (hi : i < 42) (h : rLive σ μ en c T r) : rLive σ μ en (zupd c i v) T r :=
  rLive_upd h (fun k e => by have := (zit_num hp hA hr k).1 e; omega) (fun k e => by have := (zit_num hp hA hr k).2 e; omega) (fun k e => by have := (zit_num hp hA hr k).2 (Or.inr e); omega)
/-- a group's start is written while the group isn't open -/
theorem rLive_grp (hp : pAll σ μ en fin lv ow gw kw ia) (hA : ∀ q, 0 ≤ q → q < μ.1 18 → rOK σ μ en fin lv ia g q) (hr : rV μ r) {n : Int} (n0 : 0 ≤ n) (n1 : n < μ.1 8) (nk : μ.2 3 n.toNat = 12) (hd : g 1 r < rDp μ lv n) {c : Nat → Int} {T v : Int} (h : rLive σ μ en c T r) : rLive σ μ en (zupd c (42 + μ.2 4 n.toNat).toNat v) T r := by
  have hn := ((hp.2.2.1 _ n0 n1).2.2.2.2.2.1 (by omega) (by omega)).2.2.2.2.2.2.2.1 nk
  refine rLive_upd h (fun k e => ?_) (fun k e => by have := (zit_num hp hA hr k).2 e; omega) (fun k e => by have := (zit_num hp hA hr k).2 (Or.inr e); omega)
  intro he
  have h1 := (zit_num hp hA hr k).1 e
  obtain ⟨m0, m1, m2⟩ := zit_ne hA hr hd k (Or.inl e)
  have hq := (hA _ (zit_V hA k r hr).1.1 (zit_V hA k r hr).1.2.1).2.2.2.2.2.2.2.2.2.1 e
  have hm := ((hp.2.2.1 _ m0 m1).2.2.2.2.2.1 (by have := hq.1; omega) (by have := hq.1; omega)).2.2.2.2.2.2.2.1 hq.1
  have ea : μ.2 4 (μ.2 19 (zit (μ.2 20) k r).toNat).toNat = μ.2 4 n.toNat := by omega
  rw [ea] at hm
  exact m2 (hm.2.2.2.symm.trans hn.2.2.2)
/-- a repetition's number or place is written while it isn't on the way -/
theorem rLive_rep (hp : pAll σ μ en fin lv ow gw kw ia) (hA : ∀ q, 0 ≤ q → q < μ.1 18 → rOK σ μ en fin lv ia g q) (hr : rV μ r) {n : Int} (n0 : 0 ≤ n) (n1 : n < μ.1 8) (nk : μ.2 3 n.toNat = 16) (hd : g 1 r < rDp μ lv n) (h5 : μ.2 18 r.toNat ≠ 5) {c : Nat → Int} {T v : Int} (h : rLive σ μ en c T r) :
    rLive σ μ en (zupd c (63 + σ.2 3 (en n).toNat).toNat v) T r ∧ rLive σ μ en (zupd c (163 + σ.2 3 (en n).toNat).toNat v) T r := by
  have hn := (hp.2.2.1 _ n0 n1).2.2.2.2.2.2 nk
  have hne : ∀ k, (μ.2 18 (zit (μ.2 20) k r).toNat = 5 ∨ μ.2 18 (zit (μ.2 20) k r).toNat = 6) → σ.2 3 (en (μ.2 19 (zit (μ.2 20) k r).toNat)).toNat ≠ σ.2 3 (en n).toNat := by
    intro k e he
    rcases e with e | e
    · have := zit_5 hA hr k e
      subst this
      exact h5 e
    · obtain ⟨m0, m1, m2⟩ := zit_ne hA hr hd k (Or.inr (Or.inl e))
      have hq := (hA _ (zit_V hA k r hr).1.1 (zit_V hA k r hr).1.2.1).2.2.2.2.2.2.2.2.2.2.2.1 e
      have hm := (hp.2.2.1 _ m0 m1).2.2.2.2.2.2 hq.1
      have h1 := hm.2.2.2.2.1.2.2.2.2
      have h2 := hn.2.2.2.2.1.2.2.2.2
      rw [he] at h1
      have e3 : en (μ.2 19 (zit (μ.2 20) k r).toNat) = en n := h1.symm.trans h2
      have o1 := hm.2.2.2.1
      have o2 := hn.2.2.2.1
      rw [e3] at o1
      exact m2 (o1.symm.trans o2)
  refine ⟨rLive_upd h (fun k e => by have := (zit_num hp hA hr k).1 e; have := hn.2.2.2.2.1.1; omega) (fun k e => ?_) (fun k e => ?_), rLive_upd h (fun k e => by have := (zit_num hp hA hr k).1 e; have := hn.2.2.2.2.1.1; omega) (fun k e => ?_) (fun k e => ?_)⟩
  · have := hne k e; have := (zit_num hp hA hr k).2 e; have := hn.2.2.2.2.1.1; omega
  · have := (zit_num hp hA hr k).2 (Or.inr e); have := hn.2.2.2.2.1; omega
  · have := (zit_num hp hA hr k).2 e; have := hn.2.2.2.2.1; omega
  · have := hne k (Or.inr e); have := (zit_num hp hA hr k).2 (Or.inr e); have := hn.2.2.2.2.1.1; omega
theorem zps_hi {c : Nat → Int} {i : Nat} {v : Int} : ∀ {m : Nat}, m < i → zps (zupd c i v) m = zps c m := by
  intro m
  induction m with
  | zero => intro _; rfl
  | succ m ih =>
    intro h
    show zps (zupd c i v) m + (if 0 ≤ zupd c i v (m + 1) then 1 else 0) = zps c m + (if 0 ≤ c (m + 1) then 1 else 0)
    rw [ih (by omega), zupd_n (by omega)]
theorem zps_lo {c : Nat → Int} {i : Nat} {v : Int} : ∀ {m : Nat}, 1 ≤ i → i ≤ m → zps (zupd c i v) m = zps c m + (if 0 ≤ v then 1 else 0) - (if 0 ≤ c i then 1 else 0) := by
  intro m
  induction m with
  | zero => intro h1 h2; omega
  | succ m ih =>
    intro h1 h2
    show zps (zupd c i v) m + (if 0 ≤ zupd c i v (m + 1) then 1 else 0) = zps c m + (if 0 ≤ c (m + 1) then 1 else 0) + (if 0 ≤ v then 1 else 0) - (if 0 ≤ c i then 1 else 0)
    by_cases e : i = m + 1
    · subst e
      rw [zps_hi (by omega), zupd_s]; omega
    · rw [ih h1 (by omega), zupd_n (by omega)]; omega
theorem zps_pos (c : Nat → Int) (m : Nat) : 0 ≤ zps c m := by
  induction m with
  | zero => exact Int.le_refl _
  | succ m ih =>
    show 0 ≤ zps c m + (if 0 ≤ c (m + 1) then 1 else 0)
    split <;> omega
end CH
