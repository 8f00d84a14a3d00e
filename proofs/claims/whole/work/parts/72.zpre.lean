/-! THE PURE SYSTEMS OVER THE INTEGERS: every sum is looked at, so that nothing wraps -/
abbrev zin (z : Int) : Prop := -2147483648 ≤ z ∧ z < 2147483648
abbrev zI (z : Int) : Int32 := Int32.ofInt z
abbrev z_S : Type := (Nat → Int) × (Nat → Nat → Int)
def zupd (f : Nat → Int) (i : Nat) (v : Int) : Nat → Int := fun j => if j = i then v else f j
def zF (σ : z_S) (k : Nat) (v : Int) : z_S := (fun j => if j = k then v else σ.1 j, σ.2)
def zA (σ : z_S) (a : Nat) (i : Nat) (v : Int) : z_S := (σ.1, fun b => if b = a then zupd (σ.2 a) i v else σ.2 b)
def zo (σ : z_S) : g_S := (fun k => zI (σ.1 k), fun j i => zI (σ.2 j i))
def zR (σ : z_S) : Prop := (∀ k, zin (σ.1 k)) ∧ ∀ j i, zin (σ.2 j i)
abbrev zIn (i : Int) (n : Nat) : Prop := 0 ≤ i ∧ i < n
abbrev zB (v : Int) : Prop := v = 0 ∨ v = 1
def zand (a b : Int) : Int := (zI a &&& zI b).toInt
def zor (a b : Int) : Int := (zI a ||| zI b).toInt
def zshl (a b : Int) : Int := (zI a <<< (zI b &&& 31)).toInt
def zshr (a b : Int) : Int := (((zI a).toUInt32 >>> ((zI b).toUInt32 &&& Int32.toUInt32 31)).toInt32).toInt
def zrem (a b : Int) : Int := (zI a - zI a / zI b * zI b).toInt
theorem zI_toInt {z : Int} (h : zin z) : (zI z).toInt = z := Int32.toInt_ofInt_of_le h.1 h.2
theorem zin_toInt (x : Int32) : zin x.toInt := ⟨Int32.le_toInt x, Int32.toInt_lt x⟩
theorem zI_ofInt (x : Int32) : x = zI x.toInt := (Int32.ofInt_toInt x).symm
theorem zI_add {a' b' : Int32} {a b : Int} (ha : a' = zI a) (hb : b' = zI b) : a' + b' = zI (a + b) := by rw [ha, hb]; exact (Int32.ofInt_add a b).symm
theorem zI_sub {a' b' : Int32} {a b : Int} (ha : a' = zI a) (hb : b' = zI b) : a' - b' = zI (a - b) := by rw [ha, hb]; exact (Int32.ofInt_sub a b).symm
theorem zI_mul {a' b' : Int32} {a b : Int} (ha : a' = zI a) (hb : b' = zI b) : a' * b' = zI (a * b) := by rw [ha, hb]; exact (Int32.ofInt_mul a b).symm
theorem zI_and {a' b' : Int32} {a b : Int} (ha : a' = zI a) (hb : b' = zI b) : a' &&& b' = zI (zand a b) := by rw [ha, hb]; exact zI_ofInt _
theorem zI_or {a' b' : Int32} {a b : Int} (ha : a' = zI a) (hb : b' = zI b) : a' ||| b' = zI (zor a b) := by rw [ha, hb]; exact zI_ofInt _
theorem zI_shl {a' b' : Int32} {a b : Int} (ha : a' = zI a) (hb : b' = zI b) : a' <<< (b' &&& 31) = zI (zshl a b) := by rw [ha, hb]; exact zI_ofInt _
theorem zI_shr {a' b' : Int32} {a b : Int} (ha : a' = zI a) (hb : b' = zI b) : ((a').toUInt32 >>> ((b' : Int32).toUInt32 &&& Int32.toUInt32 31)).toInt32 = zI (zshr a b) := by rw [ha, hb]; exact zI_ofInt _
theorem zI_rem {a' b' : Int32} {a b : Int} (ha : a' = zI a) (hb : b' = zI b) : a' - a' / b' * b' = zI (zrem a b) := by rw [ha, hb]; exact zI_ofInt _
theorem zI_eq {a' b' : Int32} {a b : Int} (ha : a' = zI a) (hb : b' = zI b) (h1 : zin a) (h2 : zin b) : (a' = b') ↔ (a = b) := by
  subst ha hb
  exact ⟨fun h => by rw [← zI_toInt h1, ← zI_toInt h2, h], fun h => by rw [h]⟩
theorem zI_lt {a' b' : Int32} {a b : Int} (ha : a' = zI a) (hb : b' = zI b) (h1 : zin a) (h2 : zin b) : (a' < b') ↔ (a < b) := by
  subst ha hb
  rw [Int32.lt_iff_toInt_lt, zI_toInt h1, zI_toInt h2]
theorem zI_le {a' b' : Int32} {a b : Int} (ha : a' = zI a) (hb : b' = zI b) (h1 : zin a) (h2 : zin b) : (a' ≤ b') ↔ (a ≤ b) := by
  subst ha hb
  rw [Int32.le_iff_toInt_le, zI_toInt h1, zI_toInt h2]
theorem zI_ite {a' b' c' d' : Int32} {a b c d : Int} (ha : a' = zI a) (hb : b' = zI b) (h1 : zin a) (h2 : zin b) (hc : c' = zI c) (hd : d' = zI d) : (if a' < b' then c' else d') = zI (if a < b then c else d) := by
  by_cases h : a < b
  · rw [if_pos h, if_pos ((zI_lt ha hb h1 h2).mpr h), hc]
  · rw [if_neg h, if_neg (fun q => h ((zI_lt ha hb h1 h2).mp q)), hd]
theorem zin_ite {p : Prop} [Decidable p] {c d : Int} (hc : zin c) (hd : zin d) : zin (if p then c else d) := by
  by_cases h : p
  · rw [if_pos h]; exact hc
  · rw [if_neg h]; exact hd
theorem z_clamp {i' : Int32} {i : Int} (hi : i' = zI i) (h : zin i) : i'.toNatClampNeg = i.toNat := by
  subst hi
  show (zI i).toInt.toNat = i.toNat
  rw [zI_toInt h]
theorem zo_fld {s' : g_S} {s : z_S} (h : s' = zo s) (k : Nat) : s'.1 k = zI (s.1 k) := by rw [h]; rfl
theorem zo_get {s' : g_S} {s : z_S} {j : Nat} {i' : Int32} {i : Int} (h : s' = zo s) (hi : i' = zI i) (hz : zin i) : s'.2 j (i').toNatClampNeg = zI (s.2 j i.toNat) := by rw [h, z_clamp hi hz]; rfl
theorem zo_F {s' : g_S} {s : z_S} {k : Nat} {v' : Int32} {v : Int} (h : s' = zo s) (hv : v' = zI v) : gF s' k v' = zo (zF s k v) := by
  rw [h, hv]
  unfold gF zF zo
  refine Prod.ext (funext fun j => ?_) rfl
  dsimp only
  by_cases e : j = k
  · rw [if_pos e, if_pos e]
  · rw [if_neg e, if_neg e]
theorem zo_A {s' : g_S} {s : z_S} {a : Nat} {i' : Int32} {i : Int} {v' : Int32} {v : Int} (h : s' = zo s) (hi : i' = zI i) (hz : zin i) (hv : v' = zI v) : gA s' a (i').toNatClampNeg v' = zo (zA s a i.toNat v) := by
  rw [h, hv, z_clamp hi hz]
  unfold gA zA zo
  refine Prod.ext rfl (funext fun b => funext fun j => ?_)
  dsimp only
  by_cases e : b = a
  · rw [if_pos e, if_pos e]
    show upd (fun i => zI (s.2 a i)) i.toNat (zI v) j = zI (zupd (s.2 a) i.toNat v j)
    unfold upd zupd
    by_cases e2 : j = i.toNat
    · rw [if_pos e2]; simp [e2]
    · rw [if_neg e2]; simp [e2]
  · rw [if_neg e, if_neg e]
theorem zR_F {s : z_S} {k : Nat} {v : Int} (h : zR s) (hv : zin v) : zR (zF s k v) := ⟨fun j => zin_ite hv (h.1 j), h.2⟩
theorem zR_A {s : z_S} {a i : Nat} {v : Int} (h : zR s) (hv : zin v) : zR (zA s a i v) := ⟨h.1, fun b j => by
  show zin ((if b = a then zupd (s.2 a) i v else s.2 b) j)
  by_cases e : b = a
  · rw [if_pos e]; exact zin_ite hv (h.2 a j)
  · rw [if_neg e]; exact h.2 b j⟩
/-- what the integers answer, the machine's numbers answer too -/
def zrel (X : Option (Int × z_S)) (Y : Option (Int32 × g_S)) : Prop := ∀ r s, X = some (r, s) → Y = some (zI r, zo s) ∧ zin r ∧ zR s
abbrev z_R : Type := Int ⊕ Bool
def zq : z_R → g_R
  | .inl v => .inl (zI v)
  | .inr b => .inr b
def zrelT (X : Option (z_R × z_S)) (Y : Option (g_R × g_S)) : Prop := ∀ r s, X = some (r, s) → Y = some (zq r, zo s) ∧ zR s ∧ ∀ v, r = .inl v → zin v
theorem zr_some {e : Int} {s : z_S} {e' : Int32} {s' : g_S} (he : e' = zI e) (hz : zin e) (hs : s' = zo s) (hR : zR s) : zrel (some (e, s)) (some (e', s')) := fun r t h => by cases h; exact ⟨by rw [he, hs], hz, hR⟩
theorem zt_some {e : Int} {s : z_S} {e' : Int32} {s' : g_S} (he : e' = zI e) (hz : zin e) (hs : s' = zo s) (hR : zR s) : zrelT (some (.inl e, s)) (some (.inl e', s')) := fun r t h => by cases h; exact ⟨by rw [he, hs]; rfl, hR, fun v q => by cases q; exact hz⟩
theorem zt_thr {b : Bool} {s : z_S} {s' : g_S} (hs : s' = zo s) (hR : zR s) : zrelT (some (.inr b, s)) (some (.inr b, s')) := fun r t h => by cases h; exact ⟨by rw [hs]; rfl, hR, fun v q => by cases q⟩
theorem zr_of {X : Option (Int × z_S)} {Y Y' : Option (Int32 × g_S)} (h : zrel X Y) (e : Y' = Y) : zrel X Y' := e ▸ h
theorem zt_of {X : Option (z_R × z_S)} {Y Y' : Option (g_R × g_S)} (h : zrelT X Y) (e : Y' = Y) : zrelT X Y' := e ▸ h
theorem zr_g {c : Prop} [Decidable c] {A : Option (Int × z_S)} {Y : Option (Int32 × g_S)} (h : c → zrel A Y) : zrel (if c then A else none) Y := fun r s hh => by
  by_cases q : c
  · rw [if_pos q] at hh; exact h q r s hh
  · rw [if_neg q] at hh; cases hh
theorem zt_g {c : Prop} [Decidable c] {A : Option (z_R × z_S)} {Y : Option (g_R × g_S)} (h : c → zrelT A Y) : zrelT (if c then A else none) Y := fun r s hh => by
  by_cases q : c
  · rw [if_pos q] at hh; exact h q r s hh
  · rw [if_neg q] at hh; cases hh
theorem zr_gg {c : Prop} [Decidable c] {b : Bool} {A : Option (Int × z_S)} {Y : Option (Int32 × g_S)} (hc : c → b = true) (h : c → zrel A Y) : zrel (if c then A else none) (if b = true then Y else none) := zr_g fun q => by rw [if_pos (hc q)]; exact h q
theorem zt_gg {c : Prop} [Decidable c] {b : Bool} {A : Option (z_R × z_S)} {Y : Option (g_R × g_S)} (hc : c → b = true) (h : c → zrelT A Y) : zrelT (if c then A else none) (if b = true then Y else none) := zt_g fun q => by rw [if_pos (hc q)]; exact h q
theorem zr_ite {c c' : Prop} [Decidable c] [Decidable c'] {A B : Option (Int × z_S)} {A' B' : Option (Int32 × g_S)} (hc : c' ↔ c) (h1 : zrel A A') (h2 : zrel B B') : zrel (if c then A else B) (if c' then A' else B') := by
  by_cases q : c
  · rw [if_pos q, if_pos (hc.mpr q)]; exact h1
  · rw [if_neg q, if_neg (fun z => q (hc.mp z))]; exact h2
theorem zt_ite {c c' : Prop} [Decidable c] [Decidable c'] {A B : Option (z_R × z_S)} {A' B' : Option (g_R × g_S)} (hc : c' ↔ c) (h1 : zrelT A A') (h2 : zrelT B B') : zrelT (if c then A else B) (if c' then A' else B') := by
  by_cases q : c
  · rw [if_pos q, if_pos (hc.mpr q)]; exact h1
  · rw [if_neg q, if_neg (fun z => q (hc.mp z))]; exact h2
theorem zr_bind {X : Option (Int × z_S)} {Y : Option (Int32 × g_S)} {f : Int × z_S → Option (Int × z_S)} {g : Int32 × g_S → Option (Int32 × g_S)} (h : zrel X Y) (k : ∀ r s, zin r → zR s → zrel (f (r, s)) (g (zI r, zo s))) : zrel (X.bind f) (Y.bind g) := fun r s hh => by
  cases hX : X with
  | none => rw [hX] at hh; cases hh
  | some q =>
    obtain ⟨a, t⟩ := q
    obtain ⟨h1, h2, h3⟩ := h a t hX
    rw [hX] at hh
    rw [h1]
    exact k a t h2 h3 r s hh
theorem zt_bind {X : Option (Int × z_S)} {Y : Option (Int32 × g_S)} {f : Int × z_S → Option (z_R × z_S)} {g : Int32 × g_S → Option (g_R × g_S)} (h : zrel X Y) (k : ∀ r s, zin r → zR s → zrelT (f (r, s)) (g (zI r, zo s))) : zrelT (X.bind f) (Y.bind g) := fun r s hh => by
  cases hX : X with
  | none => rw [hX] at hh; cases hh
  | some q =>
    obtain ⟨a, t⟩ := q
    obtain ⟨h1, h2, h3⟩ := h a t hX
    rw [hX] at hh
    rw [h1]
    exact k a t h2 h3 r s hh
def zthr (x : Option (z_R × z_S)) (f : Int × z_S → Option (z_R × z_S)) : Option (z_R × z_S) := x.bind fun q => match q.1 with
  | .inl v => f (v, q.2)
  | .inr b => some (.inr b, q.2)
theorem zt_thrb {X : Option (z_R × z_S)} {Y : Option (g_R × g_S)} {f : Int × z_S → Option (z_R × z_S)} {g : Int32 × g_S → Option (g_R × g_S)} (h : zrelT X Y) (k : ∀ r s, zin r → zR s → zrelT (f (r, s)) (g (zI r, zo s))) : zrelT (zthr X f) (g_thr Y g) := fun r s hh => by
  cases hX : X with
  | none => rw [hX] at hh; cases hh
  | some q =>
    obtain ⟨a, t⟩ := q
    obtain ⟨h1, h2, h3⟩ := h a t hX
    rw [hX] at hh
    rw [h1]
    cases a with
    | inl v => exact k v t (h3 v rfl) h2 r s hh
    | inr b => cases hh; exact ⟨rfl, h2, fun v q => by cases q⟩
theorem zI_len {n : Nat} : Int32.ofNat n = zI (n : Int) := rfl
theorem zin_nat {n : Nat} (h : n < 2147483648) : zin (n : Int) := ⟨by omega, by omega⟩
theorem zg_in {i' : Int32} {i : Int} {n : Nat} (hi : i' = zI i) (hz : zin i) (h : zIn i n) : gIn i' n = true := by
  subst hi
  unfold gIn
  have h1 : ¬ zI i < 0 := fun q => by
    have := (zI_lt (a := i) (b := 0) rfl rfl hz (by decide)).mp q
    omega
  have h2 : ¬ n ≤ (zI i).toNatClampNeg := by rw [z_clamp rfl hz]; omega
  simp [h1, h2]
theorem zg_B {v' : Int32} {v : Int} (hv : v' = zI v) (h : zB v) : gB v' = true := by
  subst hv
  rcases h with h | h <;> subst h <;> decide
theorem zg_j {j n : Nat} (h : j < n) : decide (j < n) = true := decide_eq_true h
theorem zg_jin {j n m : Nat} {i' : Int32} {i : Int} (hi : i' = zI i) (hz : zin i) (h : j < n ∧ zIn i m) : (decide (j < n) && gIn i' m) = true := by simp [h.1, zg_in hi hz h.2]
theorem lenC_lt (j : Nat) : lenC j < 2147483648 := by unfold lenC; split <;> decide
theorem lenM_lt (j : Nat) : lenM j < 2147483648 := by unfold lenM; split <;> decide
