/-! what a turn may come to -/
def rI (σ μ : z_S) (en fin lv ow gw kw : Int → Int) (ia : Int → Prop) (g : Nat → Int → Int) (r p : Int) : Prop := rAll σ μ en fin lv ow gw kw ia g r ∧ rCur σ μ en g r p
def oA (N : Nat) (σ μ : z_S) (en fin lv ow gw kw : Int → Int) (ia : Int → Prop) (r p : Int) : Prop := ∃ r' μ' g', zMs N 1 μ r μ' r' ∧ rI σ μ' en fin lv ow gw kw ia g' r' p ∧ fM μ μ' ∧ 0 ≤ adm μ' r' ∧ adm μ' r' < adm μ r
def oB (N : Nat) (σ μ : z_S) (en fin lv ow gw kw : Int → Int) (ia : Int → Prop) (g : Nat → Int → Int) (r p : Int) : Prop := ∃ p', zCs N σ p σ p' ∧ rI σ μ en fin lv ow gw kw ia g r p' ∧ Mc σ lv ow p' < Mc σ lv ow p
def oCC (N : Nat) (σ μ : z_S) (en fin lv ow gw kw : Int → Int) (ia : Int → Prop) (r p : Int) : Prop := ∃ k p' σ' r' μ' g', k ≤ 2 ∧ zCs N σ p σ' p' ∧ zMs N k μ r μ' r' ∧ rI σ' μ' en fin lv ow gw kw ia g' r' p' ∧ fC σ σ' ∧ fM μ μ' ∧ Mc σ' lv ow p' < Mc σ lv ow p
def oD (N : Nat) (σ μ : z_S) (r p : Int) : Prop := ∃ k σ' μ', k ≤ 2 ∧ zCs N σ p σ' (-3) ∧ zMo N k μ r μ' ∧ fC σ σ' ∧ fM μ μ' ∧ σ'.1 27 = μ'.1 16 ∧ (∀ i : Nat, i < 263 → -1 ≤ σ'.2 18 i ∧ σ'.2 18 i ≤ 60000) ∧ μ'.1 16 = μ.1 16
/-- both go back -/
def rF (σ μ : z_S) (en fin lv ow gw kw : Int → Int) (ia : Int → Prop) (g : Nat → Int → Int) (r : Int) : Prop := rAll σ μ en fin lv ow gw kw ia g r ∧ rV μ r ∧ rLks σ μ en r ∧ μ.1 18 ≤ 7 * μ.1 16 + 2 ∧ σ.1 23 ≤ 40100 ∧ μ.1 19 ≤ 10100
def oE (N : Nat) (σ μ : z_S) (en fin lv ow gw kw : Int → Int) (ia : Int → Prop) (r p : Int) : Prop := ∃ σ' μ' r' g', zCf N σ p σ' ∧ zMf N 1 μ r μ' ∧ rF σ' μ' en fin lv ow gw kw ia g' r' ∧ fC σ σ' ∧ fM μ μ' ∧ 300 * (σ'.1 25 - σ'.1 27) + 60 * σ'.1 22 + 85 < Mc σ lv ow p
def oS (N : Nat) (σ μ : z_S) (en fin lv ow gw kw : Int → Int) (ia : Int → Prop) (g : Nat → Int → Int) (r p : Int) : Prop := oA N σ μ en fin lv ow gw kw ia r p ∨ oB N σ μ en fin lv ow gw kw ia g r p ∨ oCC N σ μ en fin lv ow gw kw ia r p ∨ oD N σ μ r p ∨ oE N σ μ en fin lv ow gw kw ia r p ∨ (μ.2 18 r.toNat = 8 ∧ p = 0)
section OU
variable {N : Nat} {σ σ' μ μ' : z_S} {en fin lv ow gw kw : Int → Int} {ia : Int → Prop} {g g' : Nat → Int → Int} {r r' m p : Int}
theorem g1_bd (hp : pAll σ μ en fin lv ow gw kw ia) (hA : ∀ q, 0 ≤ q → q < μ.1 18 → rOK σ μ en fin lv ia g q) : ∀ (b : Nat) (q : Int), q < b → rV μ q → g 1 q ≤ 83 ∧ 0 ≤ g 1 q ∧ 0 ≤ g 3 q ∧ g 3 q ≤ g 1 q ∧ 0 ≤ g 2 q ∧ 0 ≤ g 4 q := by
  intro b
  induction b with
  | zero => intro q h1 h2; have := h2.1; omega
  | succ b ih =>
    intro q h1 hv
    have hq := hA q hv.1 hv.2.1
    have hv4 := hv.2.2
    have hnx := rOK_next hq hv.1 hv.2.1 hv.2.2
    obtain ⟨⟨b1, b2, b3, b4, b5, b6, b7⟩, a2, a3, a4, a5, a6, a7, a8, a9, a10, a11, a12, a13⟩ := hq
    refine ⟨?_, b1, b3, b4, b2, b5⟩
    have hc : μ.2 18 q.toNat = 0 ∨ μ.2 18 q.toNat = 1 ∨ μ.2 18 q.toNat = 2 ∨ μ.2 18 q.toNat = 3 ∨ μ.2 18 q.toNat = 5 ∨ μ.2 18 q.toNat = 6 ∨ μ.2 18 q.toNat = 7 ∨ μ.2 18 q.toNat = 8 := by omega
    have hi : μ.2 18 q.toNat ≠ 8 → g 1 (μ.2 20 q.toNat) ≤ 83 := fun h => (ih _ (by have := hnx.2.2.2 h; omega) hnx.1).1
    have hlv : ∀ n, 0 ≤ n → n < μ.1 8 → 2 ≤ μ.2 3 n.toNat → lv n ≤ 41 := fun n h0 h1 h2 => ((hp.2.2.1 n h0 h1).2.1 h2).2.2.2
    rcases hc with c | c | c | c | c | c | c | c
    · have h6 : g 1 q = g 1 (μ.2 20 q.toNat) := (a6 (by omega)).1
      have := hi (by omega); omega
    · have h6 : g 1 q = g 1 (μ.2 20 q.toNat) := (a6 (by omega)).1
      have := hi (by omega); omega
    · have h6 : g 1 q = g 1 (μ.2 20 q.toNat) := (a6 (by omega)).1
      have := hi (by omega); omega
    · have h6 : g 1 q = 2 * lv (μ.2 19 q.toNat) + 1 := (a10 c).2.2.2.2.1
      obtain ⟨n0, n1⟩ := a5 (by omega) (by omega) (by omega)
      have := hlv _ n0 n1 (by have := (a10 c).1; omega)
      omega
    · have h6 : g 1 q = g 1 (μ.2 20 q.toNat) := (a6 (by omega)).1
      have := hi (by omega); omega
    · have h6 : g 1 q = 2 * lv (μ.2 19 q.toNat) := (a12 c).2.2.2.2.1
      obtain ⟨n0, n1⟩ := a5 (by omega) (by omega) (by omega)
      have := hlv _ n0 n1 (by have := (a12 c).1; omega)
      omega
    · have h6 : g 1 q = 2 * lv (μ.2 19 q.toNat) + 1 := (a13 c).2.2.2.2.1
      obtain ⟨n0, n1⟩ := a5 (by omega) (by omega) (by omega)
      have := hlv _ n0 n1 (by have := (a13 c).1; omega)
      omega
    · have : g 1 q = 0 := (a2 c).2.1
      omega
theorem zpx_bd {t : Int} (h : zpx σ p t) (h4 : σ.1 4 ≤ 602) (ht : 0 ≤ t) (ht1 : t < 602) : 0 ≤ p ∧ p < 602 := by
  obtain ⟨k, h⟩ := h
  cases k with
  | zero => have e : p = t := h; omega
  | succ k => have := h.1; omega
/-- the numbers of a state that runs -/
theorem rBd (h : rI σ μ en fin lv ow gw kw ia g r p) : rV μ r ∧ (0 ≤ p ∧ p < 602) ∧ μ.1 8 ≤ 1300 ∧ (μ.1 18 ≤ 70007 ∧ r < 90000) ∧ (g 1 r ≤ 83 ∧ 0 ≤ g 1 r ∧ 0 ≤ g 3 r ∧ g 3 r ≤ g 1 r ∧ 0 ≤ g 2 r ∧ 0 ≤ g 4 r) ∧
    (0 ≤ σ.1 22 ∧ σ.1 22 ≤ 10083) ∧ (0 ≤ μ.1 19 ∧ μ.1 19 ≤ 10083) ∧ (0 ≤ σ.1 23 ∧ σ.1 23 ≤ 40004) ∧ (0 ≤ σ.1 27 ∧ σ.1 25 ≤ 10000 ∧ σ.1 27 ≤ σ.1 25) := by
  obtain ⟨⟨a1, a2, a3, a4, a5, a6⟩, b1, b2, b3, b4, b5, b6, b7, b8, b9⟩ := h
  obtain ⟨n1, n2, n3, n4, n5, n6, n7, n8⟩ := a4
  have hg := g1_bd a1 a5 (r.toNat + 1) r (by omega) b1
  obtain ⟨p0, p1, p2⟩ := rPn a1 a5 (r.toNat + 1) r (by omega) b1
  have hx : rEx μ r ≤ 5 := by unfold rEx; grind
  have hs : rSl μ r ≤ 4 := by unfold rSl; grind
  have hz := zps_pos (σ.2 18) 20
  have hci := zci_le (μ.2 26) (μ.1 19).toNat
  have h23 := a3.2.1
  have h4 := a1.2.2.2.2.2.1
  have h8 := a1.1.2.1
  exact ⟨b1, zpx_bd b2 h4 p0 p1, h8, ⟨by omega, by omega⟩, hg, ⟨by omega, by omega⟩, ⟨by omega, by omega⟩, ⟨by omega, by omega⟩, by omega, by omega, by omega⟩
/-- a row upon the one that is on, and it is on now -/
theorem rAdc (hA : rAll σ μ en fin lv ow gw kw ia g m) (hm : rV μ m) (hl : rLks σ μ en m) {t n x y z a0 a1 a2 a3 a4 : Int} (t4 : t ≠ 4) (t7 : t ≠ 7)
    (hnew : rOKd σ μ en fin lv ia (μ.1 7) t n m x (μ.2 18 m.toNat) (μ.1 18) (fun j => if j = 0 then a0 else if j = 1 then a1 else if j = 2 then a2 else if j = 3 then a3 else a4) (fun j => g j m))
    {c : Nat → Int} {T : Int} (hdyn : rDynd σ μ en c T t n x y z) (hli : rLive σ μ en c T m) :
    rAll σ (zrow μ t n m x y z) en fin lv ow gw kw ia (gup g (μ.1 18) a0 a1 a2 a3 a4) (μ.1 18) ∧ rV (zrow μ t n m x y z) (μ.1 18) ∧ rLks σ (zrow μ t n m x y z) en (μ.1 18) ∧ rLive σ (zrow μ t n m x y z) en c T (μ.1 18) := by
  obtain ⟨h1, h2, h3, h4, h5⟩ := rAdd hA hm ⟨hm, hl, rSub_rf, rSub_rf⟩ t4 t7 hnew hdyn hli
  exact ⟨rAll_row h1 h3.2.2.1, h3.1, h3.2.1, h4⟩
theorem gup_0 {R a0 a1 a2 a3 a4 : Int} : gup g R a0 a1 a2 a3 a4 0 R = a0 ∧ gup g R a0 a1 a2 a3 a4 1 R = a1 ∧ gup g R a0 a1 a2 a3 a4 2 R = a2 ∧ gup g R a0 a1 a2 a3 a4 3 R = a3 ∧ gup g R a0 a1 a2 a3 a4 4 R = a4 := by
  refine ⟨?_, ?_, ?_, ?_, ?_⟩ <;> exact if_pos rfl
theorem gup_f {R a0 a1 a2 a3 a4 : Int} : (fun j => gup g R a0 a1 a2 a3 a4 j R) = fun j => if j = 0 then a0 else if j = 1 then a1 else if j = 2 then a2 else if j = 3 then a3 else a4 := funext fun j => if_pos rfl
theorem zrow_n {t n m x y z : Int} : (zrow μ t n m x y z).1 18 = μ.1 18 + 1 ∧ (zrow μ t n m x y z).2 18 (μ.1 18).toNat = t ∧ (zrow μ t n m x y z).2 19 (μ.1 18).toNat = n ∧ (zrow μ t n m x y z).2 20 (μ.1 18).toNat = m ∧
    (zrow μ t n m x y z).2 21 (μ.1 18).toNat = x ∧ (zrow μ t n m x y z).2 22 (μ.1 18).toNat = y ∧ (zrow μ t n m x y z).2 23 (μ.1 18).toNat = z := by
  obtain ⟨z0, z18, z19, z20, z21, z22, z23⟩ := zrow_at (μ := μ) (a := t) (b := n) (c := m) (d := x) (e := y) (f := z)
  exact ⟨z0, by rw [z18, zupd_s], by rw [z19, zupd_s], by rw [z20, zupd_s], by rw [z21, zupd_s], by rw [z22, zupd_s], by rw [z23, zupd_s]⟩
theorem fM_row {t n m x y z : Int} : fM μ (zrow μ t n m x y z) := zfr_up zrow_fr (by simp) (by simp)
theorem rSl_0 (h : μ.2 18 r.toNat ≠ 5) : 0 ≤ rSl μ r := by unfold rSl; grind
theorem rEx_0 : 0 ≤ rEx μ r := by unfold rEx; grind
/-- terms are at their end -/
theorem st_t2n (h : rI σ μ en fin lv ow gw kw ia g r p) (ht : μ.2 18 r.toNat = 2) (hn : μ.2 19 r.toNat < 0) : oA N σ μ en fin lv ow gw kw ia r p := by
  obtain ⟨hr, hp, h8, hR, hg, hC, hP, hT, hF⟩ := rBd h
  obtain ⟨hA, b1, b2, b3, b4, b5, b6, b7, b8, b9⟩ := h
  have hq := hA.2.2.2.2.1 r hr.1 hr.2.1
  obtain ⟨v1, v2, v3, v4⟩ := rOK_next hq hr.1 hr.2.1 hr.2.2
  obtain ⟨a1, a2, a3, a4, a5, a6, a7, a8, a9, -⟩ := hq
  obtain ⟨e1, e2, e3, e4⟩ := a6 (by omega)
  have e0 : g 0 r = g 0 (μ.2 20 r.toNat) := by
    rcases a9 ht with ⟨-, k⟩ | ⟨k, -⟩
    · exact k
    · omega
  have t5 := (a4 (by omega) (by omega)).2
  refine ⟨_, _, g, zMs_of (zQ_2n hr.1 hR.2 ht hn) hr.1 hR.2 (by omega) v1.1, ⟨rAll_row hA (rSub_cons (by omega)), v1, by rw [← e0]; exact b2, b3, rLive_next b4, rLks_next b5, ?_, ?_, ?_, ?_⟩, zfr_rf, ?_, ?_⟩
  · dsimp only at e4; omega
  · dsimp only at e2
    have := rSl_0 (μ := μ) (r := μ.2 20 r.toNat) t5
    have h0 : rSl μ r = 0 := by unfold rSl; rw [if_neg (by omega), if_neg (by omega)]
    omega
  · have := rEx_0 (μ := μ) (r := μ.2 20 r.toNat)
    have h0 : rEx μ r = 0 := by unfold rEx; rw [if_neg (by omega), if_neg (by omega)]
    omega
  · dsimp only at e3; omega
  · have := v1.1
    unfold adm; grind (splits := 25)
  · have := v1.1
    have := v4 (by omega)
    unfold adm
    rw [if_pos ht, if_pos hn]
    grind (splits := 25)
end OU
