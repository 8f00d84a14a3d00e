/-! THE TWO MACHINES SIDE BY SIDE. g: what a row of the reference stands for: 0 the class's node, 1 how deep, 2 groups still open, 3 looks still open, 4 the newest start of an open group -/
def zpl (K X : Nat → Int) (B : Int) : Nat → Int → Int → Prop
  | 0, p, t => p = t
  | k + 1, p, t => (0 ≤ p ∧ p < B ∧ K p.toNat = 18) ∧ zpl K X B k (X p.toNat) t
/-- over the closing nodes of plain parentheses to t -/
def zpx (σ : z_S) (p t : Int) : Prop := ∃ k, zpl (σ.2 1) (σ.2 2) (σ.1 4) k p t
theorem zpx_rf {σ : z_S} {p : Int} : zpx σ p p := ⟨0, rfl⟩
theorem zpx_no {σ : z_S} {p t : Int} (h : zpx σ p t) (hk : σ.2 1 p.toNat ≠ 18) : p = t := by
  obtain ⟨k, h⟩ := h
  cases k with
  | zero => exact h
  | succ k => exact absurd h.1.2.2 hk
theorem zpx_up {σ : z_S} {p t : Int} (h : zpx σ p t) (hk : σ.2 1 p.toNat = 18) (ht : σ.2 1 t.toNat ≠ 18) : zpx σ (σ.2 2 p.toNat) t ∧ 0 ≤ p ∧ p < σ.1 4 := by
  obtain ⟨k, h⟩ := h
  cases k with
  | zero =>
    have e : p = t := h
    subst e; exact absurd hk ht
  | succ k => exact ⟨⟨k, h.2⟩, h.1.1, h.1.2.1⟩
theorem zpx_st {σ : z_S} {p t : Int} (h : zpx σ (σ.2 2 p.toNat) t) (h0 : 0 ≤ p) (h1 : p < σ.1 4) (hk : σ.2 1 p.toNat = 18) : zpx σ p t := by
  obtain ⟨k, h⟩ := h
  exact ⟨k + 1, ⟨h0, h1, hk⟩, h⟩
def rDp (μ : z_S) (lv : Int → Int) (n : Int) : Int := if μ.2 3 n.toNat = 16 then 2 * lv n else 2 * lv n + 1
/-- what a row says that is there for good: its todo t, its node n, the next row m and that one's todo tm, its x; a: what the row stands for, b: what the next one does -/
def rOKd (σ μ : z_S) (en fin lv : Int → Int) (ia : Int → Prop) (len t n m x tm q : Int) (a b : Nat → Int) : Prop :=
  (0 ≤ a 1 ∧ 0 ≤ a 2 ∧ 0 ≤ a 3 ∧ a 3 ≤ a 1 ∧ 0 ≤ a 4 ∧ 0 ≤ t ∧ t ≤ 8) ∧
  (t = 8 → a 0 = 0 ∧ a 1 = 0 ∧ a 2 = 0 ∧ a 3 = 0 ∧ a 4 = 0 ∧ q = 0 ∧ m = 0) ∧
  (t ≠ 8 → 0 ≤ m ∧ m < q) ∧ (t ≠ 8 → t ≠ 4 → tm ≠ 4 ∧ tm ≠ 5) ∧
  (t ≠ 8 → t ≠ 4 → t ≠ 2 → 0 ≤ n ∧ n < μ.1 8) ∧
  (t = 0 ∨ t = 1 ∨ t = 2 ∨ t = 5 → a 1 = b 1 ∧ a 2 = b 2 ∧ a 3 = b 3 ∧ a 4 = b 4) ∧
  (t = 0 → (μ.2 3 n.toNat = 1 ∧ 0 ≤ μ.2 7 n.toNat ∧ μ.2 7 n.toNat < μ.1 8 ∧ μ.2 3 (μ.2 7 n.toNat).toNat = 2 ∧ a 0 = en (μ.2 7 n.toNat) ∧ zpx σ (fin (μ.2 7 n.toNat)) (b 0) ∧ a 1 < 2 * lv (μ.2 7 n.toNat)) ∨
     (3 ≤ μ.2 3 n.toNat ∧ a 0 = en n ∧ zpx σ (σ.2 2 (pex μ en n).toNat) (b 0) ∧ a 1 < rDp μ lv n)) ∧
  (t = 1 → μ.2 3 n.toNat = 2 ∧ a 0 = en n ∧ zpx σ (fin n) (b 0) ∧ a 1 < 2 * lv n) ∧
  (t = 2 → (n < 0 ∧ a 0 = b 0) ∨ (0 ≤ n ∧ n < μ.1 8 ∧ ia n ∧ a 0 = en n ∧ zpx σ (fin n) (b 0) ∧ a 1 < 2 * lv n)) ∧
  (t = 3 → μ.2 3 n.toNat = 12 ∧ a 0 = en n + 1 ∧ zpx σ (σ.2 2 (en n + 1).toNat) (b 0) ∧ b 1 < a 1 ∧ a 1 = 2 * lv n + 1 ∧ a 2 = b 2 + 1 ∧ a 3 = b 3 ∧ a 4 = x ∧ b 4 ≤ x) ∧
  (t = 5 → μ.2 3 n.toNat = 16 ∧ a 0 = en n + 1 ∧ zpx σ (σ.2 2 (en n).toNat) (b 0) ∧ a 1 < 2 * lv n) ∧
  (t = 6 → μ.2 3 n.toNat = 16 ∧ a 0 = en n + 2 ∧ zpx σ (σ.2 2 (en n).toNat) (b 0) ∧ b 1 < a 1 ∧ a 1 = 2 * lv n ∧ a 2 = b 2 ∧ a 3 = b 3 ∧ a 4 = b 4) ∧
  (t = 7 → (μ.2 3 n.toNat = 14 ∨ μ.2 3 n.toNat = 15) ∧ a 0 = en n + 1 ∧ zpx σ (σ.2 2 (en n + 1).toNat) (b 0) ∧ b 1 < a 1 ∧ a 1 = 2 * lv n + 1 ∧ a 2 = b 2 ∧ a 3 = b 3 + 1 ∧ a 4 = b 4 ∧ a 4 ≤ x ∧ 0 ≤ x ∧ x ≤ len)
theorem rOKd_cut (σ μ : z_S) (en fin lv : Int → Int) (ia : Int → Prop) (len t n m x tm q : Int) (a b : Nat → Int) : rOKd (cutC σ) (cutM μ) en fin lv ia len t n m x tm q a b = rOKd σ μ en fin lv ia len t n m x tm q a b := rfl
def rOK (σ μ : z_S) (en fin lv : Int → Int) (ia : Int → Prop) (g : Nat → Int → Int) (q : Int) : Prop :=
  rOKd σ μ en fin lv ia (μ.1 7) (μ.2 18 q.toNat) (μ.2 19 q.toNat) (μ.2 20 q.toNat) (μ.2 21 q.toNat) (μ.2 18 (μ.2 20 q.toNat).toNat) q (fun j => g j q) (fun j => g j (μ.2 20 q.toNat))
/-- how often, and how much is left -/
def rXY (k a b x y : Int) : Prop := x = (if a ≤ k then 0 else a - k) ∧ y = (if b = 1000000 then 1000000 else b - k) ∧ (b = 1000000 ∨ k < b)
/-- what a row says of the cells while it is on the way -/
def rDynd (σ μ : z_S) (en : Int → Int) (c : Nat → Int) (T t n x y z : Int) : Prop :=
  (t = 3 → c (42 + μ.2 4 n.toNat).toNat = x) ∧
  (t = 5 ∨ t = 6 → 0 ≤ c (63 + σ.2 3 (en n).toNat).toNat ∧ c (63 + σ.2 3 (en n).toNat).toNat ≤ T ∧ rXY (c (63 + σ.2 3 (en n).toNat).toNat) (μ.2 4 n.toNat) (μ.2 5 n.toNat) x y) ∧
  (t = 6 → c (163 + σ.2 3 (en n).toNat).toNat = z)
theorem rDynd_cut (σ μ : z_S) (en : Int → Int) (c : Nat → Int) (T t n x y z : Int) : rDynd (cutC σ) (cutM μ) en c T t n x y z = rDynd σ μ en c T t n x y z := rfl
def rDyn (σ μ : z_S) (en : Int → Int) (c : Nat → Int) (T q : Int) : Prop := rDynd σ μ en c T (μ.2 18 q.toNat) (μ.2 19 q.toNat) (μ.2 21 q.toNat) (μ.2 22 q.toNat) (μ.2 23 q.toNat)
def zit (X : Nat → Int) : Nat → Int → Int
  | 0, r => r
  | k + 1, r => zit X k (X r.toNat)
def rLive (σ μ : z_S) (en : Int → Int) (c : Nat → Int) (T r : Int) : Prop := ∀ k, rDyn σ μ en c T (zit (μ.2 20) k r)
/-- what a look that is open says -/
def rLk (σ μ : z_S) (en : Int → Int) (q : Int) : Prop := μ.2 18 q.toNat = 7 →
  1 ≤ μ.2 22 q.toNat ∧ μ.2 22 q.toNat ≤ μ.1 19 ∧ μ.2 24 (μ.2 22 q.toNat - 1).toNat = μ.2 20 q.toNat ∧ μ.2 26 (μ.2 22 q.toNat - 1).toNat = μ.2 3 (μ.2 19 q.toNat).toNat - 13 ∧
  σ.2 23 (σ.2 3 (en (μ.2 19 q.toNat)).toNat).toNat = (zci (μ.2 26) (μ.2 22 q.toNat - 1).toNat : Nat) ∧ σ.2 24 (σ.2 3 (en (μ.2 19 q.toNat)).toNat).toNat = μ.2 21 q.toNat
def rLks (σ μ : z_S) (en : Int → Int) (r : Int) : Prop := ∀ k, rLk σ μ en (zit (μ.2 20) k r)
def rSub (μ : z_S) (a b : Int) : Prop := ∀ k, μ.2 18 (zit (μ.2 20) k a).toNat = 7 → ∃ l, zit (μ.2 20) l b = zit (μ.2 20) k a
def zps (c : Nat → Int) : Nat → Int
  | 0 => 0
  | k + 1 => zps c k + (if 0 ≤ c (k + 1) then 1 else 0)
/-- what an entry of the pile says; r: the row that is on now -/
def rEnt (σ μ : z_S) (en : Int → Int) (g : Nat → Int → Int) (r : Int) (i : Nat) : Prop :=
  (0 ≤ μ.2 24 i ∧ μ.2 24 i < μ.1 18 ∧ μ.2 18 (μ.2 24 i).toNat ≠ 4) ∧ 0 ≤ μ.2 26 i ∧ μ.2 26 i ≤ 2 ∧ (i : Int) ≤ μ.1 16 + g 3 (μ.2 24 i) ∧
  rSub μ (μ.2 24 i) (if (i : Int) + 1 < μ.1 19 then μ.2 24 (i + 1) else r) ∧
  (∀ k, μ.2 18 (zit (μ.2 20) k (μ.2 24 i)).toNat = 7 → μ.2 22 (zit (μ.2 20) k (μ.2 24 i)).toNat ≤ i) ∧
  (μ.2 26 i ≠ 1 → zpx σ (σ.2 19 (zci (μ.2 26) i)) (g 0 (μ.2 24 i)) ∧ σ.2 20 (zci (μ.2 26) i) = μ.2 25 i ∧ g 4 (μ.2 24 i) ≤ μ.2 25 i ∧ 0 ≤ μ.2 25 i ∧ μ.2 25 i ≤ μ.1 7 ∧
    zGR (zcat σ (σ.2 21 (zci (μ.2 26) i))) (fun k => μ.2 27 (42 * i + k)) (μ.1 7) ∧ rLive σ μ en (zcat σ (σ.2 21 (zci (μ.2 26) i))) (μ.1 16) (μ.2 24 i) ∧
    σ.2 21 (zci (μ.2 26) i) + 3 * g 2 (μ.2 24 i) + zps (zcat σ (σ.2 21 (zci (μ.2 26) i))) 20 ≤ 4 * μ.1 16 + (if μ.2 18 (μ.2 24 i).toNat = 5 then -1 else 0))
def rSl (μ : z_S) (r : Int) : Int := if μ.2 18 r.toNat = 5 then -1 else if μ.2 18 r.toNat = 1 ∨ (μ.2 18 r.toNat = 0 ∧ μ.2 3 (μ.2 19 r.toNat).toNat = 1) then 4 else 0
def rEx (μ : z_S) (r : Int) : Int := if μ.2 18 r.toNat = 0 then (if μ.2 3 (μ.2 19 r.toNat).toNat = 1 then 4 else 2) else if μ.2 18 r.toNat = 1 then 5 else 0
/-- numbers that count -/
def rNum (σ μ : z_S) : Prop := σ.1 27 = μ.1 16 ∧ 0 ≤ μ.1 16 ∧ μ.1 16 ≤ μ.1 17 ∧ σ.1 25 = μ.1 17 ∧ μ.1 17 ≤ 10000 ∧ 0 ≤ μ.1 19 ∧ 1 ≤ μ.1 18 ∧ σ.1 22 = (zci (μ.2 26) (μ.1 19).toNat : Nat)
/-- what holds of both machines whichever row is on -/
def rAll (σ μ : z_S) (en fin lv ow gw kw : Int → Int) (ia : Int → Prop) (g : Nat → Int → Int) (r : Int) : Prop :=
  pAll σ μ en fin lv ow gw kw ia ∧ zTx σ μ ∧ zCI σ ∧ rNum σ μ ∧ (∀ q, 0 ≤ q → q < μ.1 18 → rOK σ μ en fin lv ia g q) ∧ (∀ i : Nat, (i : Int) < μ.1 19 → rEnt σ μ en g r i)
/-- and of the row that is on -/
def rCur (σ μ : z_S) (en : Int → Int) (g : Nat → Int → Int) (r p : Int) : Prop :=
  (0 ≤ r ∧ r < μ.1 18 ∧ μ.2 18 r.toNat ≠ 4) ∧ zpx σ p (g 0 r) ∧ zGR (σ.2 18) (μ.2 17) (μ.1 7) ∧ rLive σ μ en (σ.2 18) (μ.1 16) r ∧ rLks σ μ en r ∧ g 4 r ≤ μ.1 11 ∧
  σ.1 23 + 3 * g 2 r + zps (σ.2 18) 20 ≤ 4 * μ.1 16 + rSl μ r ∧ μ.1 18 ≤ 7 * μ.1 16 + 2 + rEx μ r ∧ μ.1 19 ≤ μ.1 16 + g 3 r
