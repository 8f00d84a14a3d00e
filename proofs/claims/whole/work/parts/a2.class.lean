/-! the class's cells, trail and choices -/
def zun (e : Int) (c : Nat → Int) : Nat → Int := zupd c (zshr e 16).toNat (zand e 65535 - 1)
def zrs (tr : Nat → Int) (t : Nat) : Nat → (Nat → Int) → (Nat → Int)
  | 0 => fun c => c
  | n + 1 => fun c => if n + 1 ≤ t then c else zrs tr t n (zun (tr n) c)
/-- the cells as they were when the trail had t entries -/
def zcat (σ : z_S) (t : Int) : Nat → Int := zrs (σ.2 22) t.toNat (σ.1 23).toNat (σ.2 18)
def zen (c b : Int) : Int := zor (zshl c 16) (b + 1)
theorem zen_bits {c b : Nat} (hc : c < 512) (hb : b < 65536) : zor (zshl (c : Int) 16) (b : Int) = ((c * 65536 + b : Nat) : Int) := by
  unfold zor zshl
  have h1 : (zI (c : Int) <<< (zI 16 &&& 31)) = zI ((c * 65536 : Nat) : Int) := by
    apply Int32.toBitVec_inj.mp
    apply BitVec.eq_of_toNat_eq
    show (BitVec.ofNat 32 c <<< (16 : Nat)).toNat = (BitVec.ofNat 32 (c * 65536)).toNat
    simp only [BitVec.toNat_shiftLeft, BitVec.toNat_ofNat, Nat.shiftLeft_eq]
    omega
  rw [h1]
  have h2 : (zI (zI ((c * 65536 : Nat) : Int)).toInt ||| zI (b : Int)) = zI ((c * 65536 + b : Nat) : Int) := by
    rw [zI_toInt ⟨by omega, by omega⟩]
    apply Int32.toBitVec_inj.mp
    apply BitVec.eq_of_toNat_eq
    show (BitVec.ofNat 32 (c * 65536) ||| BitVec.ofNat 32 b).toNat = (BitVec.ofNat 32 (c * 65536 + b)).toNat
    simp only [BitVec.toNat_or, BitVec.toNat_ofNat]
    rw [Nat.mod_eq_of_lt (by omega), Nat.mod_eq_of_lt (by omega), Nat.mod_eq_of_lt (by omega), Nat.mul_comm c 65536]
    exact (Nat.two_pow_add_eq_or_of_lt (i := 16) hb c).symm
  rw [h2, zI_toInt ⟨by omega, by omega⟩]
theorem zen_shr {c b : Nat} (hc : c < 512) (hb : b < 65536) : zshr ((c * 65536 + b : Nat) : Int) 16 = (c : Int) := by
  unfold zshr
  have h : (((zI ((c * 65536 + b : Nat) : Int)).toUInt32 >>> ((zI 16).toUInt32 &&& Int32.toUInt32 31)).toInt32) = zI (c : Int) := by
    apply Int32.toBitVec_inj.mp
    apply BitVec.eq_of_toNat_eq
    show (BitVec.ofNat 32 (c * 65536 + b) >>> (16 : Nat)).toNat = (BitVec.ofNat 32 c).toNat
    simp only [BitVec.toNat_ushiftRight, BitVec.toNat_ofNat, Nat.shiftRight_eq_div_pow]
    omega
  rw [h, zI_toInt ⟨by omega, by omega⟩]
theorem zen_and {c b : Nat} (hc : c < 512) (hb : b < 65536) : zand ((c * 65536 + b : Nat) : Int) 65535 = (b : Int) := by
  unfold zand
  have h : (zI ((c * 65536 + b : Nat) : Int) &&& zI 65535) = zI (b : Int) := by
    apply Int32.toBitVec_inj.mp
    apply BitVec.eq_of_toNat_eq
    show (BitVec.ofNat 32 (c * 65536 + b) &&& BitVec.ofNat 32 65535).toNat = (BitVec.ofNat 32 b).toNat
    simp only [BitVec.toNat_and, BitVec.toNat_ofNat]
    rw [Nat.mod_eq_of_lt (by omega), Nat.mod_eq_of_lt (by omega), Nat.mod_eq_of_lt (by omega), show (65535 : Nat) = 2 ^ 16 - 1 from rfl, Nat.and_two_pow_sub_one_eq_mod]
    omega
  rw [h, zI_toInt ⟨by omega, by omega⟩]
theorem zun_en {c b : Int} {f : Nat → Int} (h0 : 0 ≤ c) (h1 : c < 263) (h2 : -1 ≤ b) (h3 : b ≤ 60000) : zun (zor (zshl c 16) (b + 1)) f = zupd f c.toNat b ∧ zshr (zor (zshl c 16) (b + 1)) 16 = c ∧ zand (zor (zshl c 16) (b + 1)) 65535 = b + 1 := by
  obtain ⟨c', rfl⟩ : ∃ c' : Nat, c = c' := ⟨c.toNat, by omega⟩
  obtain ⟨b', hb'⟩ : ∃ b' : Nat, b + 1 = b' := ⟨(b + 1).toNat, by omega⟩
  rw [hb', zen_bits (by omega) (by omega)]
  have e1 := zen_shr (c := c') (b := b') (by omega) (by omega)
  have e2 := zen_and (c := c') (b := b') (by omega) (by omega)
  refine ⟨?_, e1, e2⟩
  unfold zun
  rw [e1, e2, ← hb', show b + 1 - 1 = b by omega]
/-- what always holds of the class's trail and choices -/
def zCI (σ : z_S) : Prop := 0 ≤ σ.1 22 ∧ 0 ≤ σ.1 23 ∧ (∀ i : Nat, i < 263 → -1 ≤ σ.2 18 i ∧ σ.2 18 i ≤ 60000) ∧
  (∀ t : Nat, (t : Int) < σ.1 23 → 0 ≤ zshr (σ.2 22 t) 16 ∧ zshr (σ.2 22 t) 16 < 263 ∧ 0 ≤ zand (σ.2 22 t) 65535 ∧ zand (σ.2 22 t) 65535 ≤ 60001) ∧
  (∀ c : Nat, (c : Int) < σ.1 22 → 0 ≤ σ.2 21 c ∧ σ.2 21 c ≤ σ.1 23) ∧ (∀ c d : Nat, c ≤ d → (d : Int) < σ.1 22 → σ.2 21 c ≤ σ.2 21 d)
theorem zrs_app {tr : Nat → Int} {t n : Nat} {e : Int} {c : Nat → Int} : ∀ {k : Nat}, k ≤ n → zrs (zupd tr n e) t k c = zrs tr t k c := by
  intro k
  induction k generalizing c with
  | zero => intro _; rfl
  | succ k ih =>
    intro h
    show (if k + 1 ≤ t then c else zrs (zupd tr n e) t k (zun (zupd tr n e k) c)) = if k + 1 ≤ t then c else zrs tr t k (zun (tr k) c)
    by_cases q : k + 1 ≤ t
    · rw [if_pos q, if_pos q]
    · rw [if_neg q, if_neg q, zupd_n (by omega), ih (by omega)]
theorem zrs_at {tr : Nat → Int} {n : Nat} {c : Nat → Int} : zrs tr n n c = c := by
  cases n with
  | zero => rfl
  | succ n => show (if n + 1 ≤ n + 1 then c else _) = c; rw [if_pos (Nat.le_refl _)]
/-- going back in two legs -/
theorem zrs_two {tr : Nat → Int} {t u : Nat} (h : t ≤ u) : ∀ (n : Nat) (c : Nat → Int), u ≤ n → zrs tr t u (zrs tr u n c) = zrs tr t n c := by
  intro n
  induction n with
  | zero => intro c hu; have : u = 0 := by omega
            subst this; rfl
  | succ n ih =>
    intro c hu
    by_cases q : n + 1 ≤ u
    · have : u = n + 1 := by omega
      subst this
      rw [zrs_at]
    · show zrs tr t u (if n + 1 ≤ u then c else zrs tr u n (zun (tr n) c)) = if n + 1 ≤ t then c else zrs tr t n (zun (tr n) c)
      rw [if_neg q, if_neg (by omega), ih _ (by omega)]
section CL
variable {N : Nat} {σ : z_S}
theorem zcell_e {c v : Int} (hI : zCI σ) (h0 : 0 ≤ c) (h1 : c < 263) (h2 : -1 ≤ v) (h3 : v ≤ 60000) (ht : σ.1 23 < 40100) :
    ∃ τ, zMachine_setCell N c v σ = some (0, τ) ∧ zCI τ ∧ zfr [23] [18, 22] σ τ ∧ τ.2 18 = zupd (σ.2 18) c.toNat v ∧ (∀ t, 0 ≤ t → t ≤ σ.1 23 → zcat τ t = zcat σ t) ∧ σ.1 23 ≤ τ.1 23 ∧ τ.1 23 ≤ σ.1 23 + (if σ.2 18 c.toNat = v then 0 else 1) := by
  obtain ⟨i1, i2, i3, i4, i5, i6⟩ := id hI
  have hc := i3 c.toNat (by omega)
  rw [zMachine_setCell_u, zrr (by decide) h0 (by show c < 263; omega)]
  simp only [Option.bind_some]
  by_cases q : σ.2 18 c.toNat = v
  · rw [if_pos q]
    exact ⟨σ, rfl, hI, zfr_rf, (zupd_id q).symm, fun _ _ _ => rfl, Int.le_refl _, by rw [if_pos q]; omega⟩
  · rw [if_neg q, if_pos ⟨by omega, by omega⟩, zrw (by decide) i2 (by show σ.1 23 < 40100; exact ht)]
    simp only [Option.bind_some]
    rw [if_pos ⟨by rw [zA_1]; omega, by rw [zA_1]; omega⟩, zrw (by decide) h0 (by show c < 263; omega)]
    simp only [Option.bind_some]
    obtain ⟨u1, u2, u3⟩ := zun_en (f := zupd (σ.2 18) c.toNat v) h0 h1 hc.1 hc.2
    refine ⟨_, rfl, ⟨i1, ?_, fun i hi => ?_, fun t htt => ?_, fun d hd => ?_, fun d e hde he => ?_⟩, ?_, ?_, fun t t0 t1 => ?_, ?_, ?_⟩
    · simp only [zA_1, zF_1, if_true]; omega
    · simp only [zA_2, zF_2, if_true, Nat.reduceEqDiff, if_false, zupd_e]
      by_cases e : i = c.toNat
      · rw [if_pos e]; exact ⟨h2, h3⟩
      · rw [if_neg e]; exact i3 i hi
    · simp only [zA_1, zF_1, if_true] at htt
      simp only [zA_2, zF_2, if_true, Nat.reduceEqDiff, if_false, zupd_e]
      by_cases e : t = (σ.1 23).toNat
      · rw [if_pos e, u2, u3]; omega
      · rw [if_neg e]; exact i4 t (by omega)
    · have := i5 d hd
      simp only [zA_1, zF_1, zA_2, zF_2, if_true, Nat.reduceEqDiff, if_false]
      omega
    · exact i6 d e hde he
    · exact zfr_A (zfr_F (zfr_A zfr_rf (by simp)) (by simp)) (by simp)
    · simp only [zA_2, zF_2, if_true, Nat.reduceEqDiff, if_false]
    · unfold zcat
      simp only [zA_1, zF_1, zA_2, zF_2, if_true, Nat.reduceEqDiff, if_false]
      rw [show (σ.1 23 + 1).toNat = (σ.1 23).toNat + 1 by omega]
      show (if (σ.1 23).toNat + 1 ≤ t.toNat then _ else zrs _ t.toNat (σ.1 23).toNat (zun (zupd (σ.2 22) (σ.1 23).toNat _ (σ.1 23).toNat) _)) = _
      rw [if_neg (by omega), zupd_s, u1, zrs_app (Nat.le_refl _)]
      congr 1
      funext j
      simp only [zupd_e]
      by_cases e : j = c.toNat
      · rw [if_pos e, e]
      · rw [if_neg e, if_neg e]
    · simp only [zA_1, zF_1, if_true]; omega
    · simp only [zA_1, zF_1, if_true]; rw [if_neg q]; omega
def zch (σ : z_S) (p : Int) : z_S := zF (zA (zA (zA σ 19 (σ.1 22).toNat p) 20 (σ.1 22).toNat (σ.1 24)) 21 (σ.1 22).toNat (σ.1 23)) 22 (σ.1 22 + 1)
theorem zch_e {p : Int} (h0 : 0 ≤ σ.1 22) (h1 : σ.1 22 < 10100) : zMachine_addChoice N p σ = some (0, zch σ p) := by
  rw [zMachine_addChoice_u, zrw (by decide) h0 (by show σ.1 22 < 10100; exact h1)]
  simp only [Option.bind_some, zA_1]
  rw [zrw (by decide) h0 (by show σ.1 22 < 10100; exact h1)]
  simp only [Option.bind_some, zA_1]
  rw [zrw (by decide) h0 (by show σ.1 22 < 10100; exact h1)]
  simp only [Option.bind_some, zA_1]
  exact if_pos (show zin (σ.1 22 + 1) from ⟨by omega, by omega⟩)
theorem zch_I {p : Int} (hI : zCI σ) : zCI (zch σ p) := by
  obtain ⟨i1, i2, i3, i4, i5, i6⟩ := hI
  refine ⟨?_, i2, i3, i4, fun c hc => ?_, fun c d hcd hd => ?_⟩
  · simp only [zch, zF_1, if_true]; omega
  · simp only [zch, zF_1, zA_1, zA_2, zF_2, if_true, Nat.reduceEqDiff, if_false, zupd_e] at hc ⊢
    by_cases e : c = (σ.1 22).toNat
    · rw [if_pos e]; omega
    · rw [if_neg e]; exact i5 c (by omega)
  · simp only [zch, zF_1, zA_1, zA_2, zF_2, if_true, Nat.reduceEqDiff, if_false, zupd_e] at hd ⊢
    by_cases e : d = (σ.1 22).toNat
    · rw [if_pos e]
      by_cases e2 : c = (σ.1 22).toNat
      · rw [if_pos e2]; omega
      · rw [if_neg e2]; exact (i5 c (by omega)).2
    · rw [if_neg e, if_neg (by omega)]; exact i6 c d hcd (by omega)
theorem zch_cat {p t : Int} : zcat (zch σ p) t = zcat σ t := rfl
theorem zch_fr {p : Int} : zfr [22] [19, 20, 21] σ (zch σ p) := zfr_F (zfr_A (zfr_A (zfr_A zfr_rf (by simp)) (by simp)) (by simp)) (by simp)
/-- going back to the newest choice -/
theorem znext_loop (hI : zCI σ) {t c : Int} (h0 : 0 ≤ t) (hc0 : 0 ≤ c) (hc : c < 10100) : ∀ (n m : Nat) (τ : z_S), t ≤ m → (m : Int) ≤ t + n → τ.1 23 = m → τ.1 22 = c → τ.2 22 = σ.2 22 → τ.2 19 = σ.2 19 → τ.2 20 = σ.2 20 → (m : Int) ≤ σ.1 23 → (m : Int) ≤ 40100 →
    ∃ υ, zMachine_nextChoice_l32 N (n + 1) t τ = some (σ.2 19 c.toNat, υ) ∧ υ.1 23 = t ∧ υ.1 24 = σ.2 20 c.toNat ∧ υ.2 18 = zrs (σ.2 22) t.toNat m (τ.2 18) ∧ zfr [23, 24] [18] τ υ := by
  obtain ⟨i1, i2, i3, i4, i5, i6⟩ := hI
  intro n
  induction n with
  | zero =>
    intro m τ h1 h2 e1 e2 e3 e4 e5 h3 h4
    have hm : (m : Int) = t := by omega
    rw [zMachine_nextChoice_l32_s, if_pos (by omega), zrr (by decide) (by omega) (by rw [e2]; exact hc)]
    simp only [Option.bind_some]
    rw [zrr (by decide) (by omega) (by show τ.1 22 < (10100 : Int); rw [e2]; exact hc)]
    simp only [Option.bind_some, zF_1, zF_2, Nat.reduceEqDiff, if_false, e2, e4, e5]
    refine ⟨_, rfl, ?_, ?_, ?_, zfr_F zfr_rf (by simp)⟩
    · simp only [zF_1, Nat.reduceEqDiff, if_false]; omega
    · simp only [zF_1, if_true]
    · rw [show t.toNat = m by omega, zrs_at]; rfl
  | succ n ih =>
    intro m τ h1 h2 e1 e2 e3 e4 e5 h3 h4
    by_cases q : (m : Int) = t
    · rw [zMachine_nextChoice_l32_s, if_pos (by omega), zrr (by decide) (by omega) (by rw [e2]; exact hc)]
      simp only [Option.bind_some]
      rw [zrr (by decide) (by omega) (by show τ.1 22 < (10100 : Int); rw [e2]; exact hc)]
      simp only [Option.bind_some, zF_1, zF_2, Nat.reduceEqDiff, if_false, e2, e4, e5]
      refine ⟨_, rfl, ?_, ?_, ?_, zfr_F zfr_rf (by simp)⟩
      · simp only [zF_1, Nat.reduceEqDiff, if_false]; omega
      · simp only [zF_1, if_true]
      · rw [show t.toNat = m by omega, zrs_at]; rfl
    · obtain ⟨k, rfl⟩ : ∃ k, m = k + 1 := ⟨m - 1, by omega⟩
      have hk := i4 k (by omega)
      rw [zMachine_nextChoice_l32_s, if_neg (by omega), if_pos ⟨by omega, by omega⟩, e1, zrr (by decide) (by omega) (by show _ < (40100 : Int); omega)]
      simp only [Option.bind_some, zF_2, show (((k + 1 : Nat) : Int) - 1).toNat = k by omega, e3]
      rw [if_pos ⟨by omega, by omega⟩, zrw (by decide) hk.1 (by show _ < (263 : Int); exact hk.2.1)]
      simp only [Option.bind_some]
      obtain ⟨υ, r1, r2, r3, r4, r5⟩ := ih k (zA (zF τ 23 (((k + 1 : Nat) : Int) - 1)) 18 (zshr (σ.2 22 k) 16).toNat (zand (σ.2 22 k) 65535 - 1)) (by omega) (by omega)
        (by simp only [zA_1, zF_1, if_true]; omega) (by simp only [zA_1, zF_1, Nat.reduceEqDiff, if_false]; exact e2) (by simp only [zA_2, zF_2, Nat.reduceEqDiff, if_false]; exact e3) (by simp only [zA_2, zF_2, Nat.reduceEqDiff, if_false]; exact e4) (by simp only [zA_2, zF_2, Nat.reduceEqDiff, if_false]; exact e5) (by omega) (by omega)
      refine ⟨υ, r1, r2, r3, ?_, zfr_tr (zfr_A (zfr_F zfr_rf (by simp)) (by simp)) r5⟩
      rw [r4]
      simp only [zA_2, zF_2, if_true]
      show zrs (σ.2 22) t.toNat k (zun (σ.2 22 k) (τ.2 18)) = if k + 1 ≤ t.toNat then τ.2 18 else zrs (σ.2 22) t.toNat k (zun (σ.2 22 k) (τ.2 18))
      rw [if_neg (by omega)]
theorem znext_e (hN : 40200 ≤ N) (hI : zCI σ) (h1 : 0 < σ.1 22) (h2 : σ.1 22 ≤ 10100) (h3 : σ.1 23 ≤ 40100) :
    ∃ υ, zMachine_nextChoice N σ = some (σ.2 19 (σ.1 22 - 1).toNat, υ) ∧ zCI υ ∧ zfr [22, 23, 24] [18] σ υ ∧ υ.1 22 = σ.1 22 - 1 ∧ υ.1 23 = σ.2 21 (σ.1 22 - 1).toNat ∧ υ.1 24 = σ.2 20 (σ.1 22 - 1).toNat ∧ υ.2 18 = zcat σ (σ.2 21 (σ.1 22 - 1).toNat) ∧ (∀ t, 0 ≤ t → t ≤ υ.1 23 → zcat υ t = zcat σ t) := by
  obtain ⟨i1, i2, i3, i4, i5, i6⟩ := id hI
  have hc := i5 (σ.1 22 - 1).toNat (by omega)
  rw [zMachine_nextChoice_u, if_pos h1, if_pos ⟨by omega, by omega⟩, zrr (by decide) (by omega) (by show _ < (10100 : Int); omega)]
  simp only [Option.bind_some, zF_2]
  obtain ⟨n, hn⟩ : ∃ n, N = n + 1 := ⟨N - 1, by omega⟩
  obtain ⟨υ, r1, r2, r3, r4, r5⟩ := znext_loop (N := N) hI (t := σ.2 21 (σ.1 22 - 1).toNat) (c := σ.1 22 - 1) hc.1 (by omega) (by omega) n (σ.1 23).toNat (zF σ 22 (σ.1 22 - 1)) (by omega) (by omega) (by simp only [zF_1, Nat.reduceEqDiff, if_false]; omega) (by simp only [zF_1, if_true]) rfl rfl rfl (by omega) (by omega)
  rw [← hn] at r1
  have hfr : zfr [22, 23, 24] [18] σ υ := zfr_tr (zfr_F zfr_rf (by simp)) (zfr_up r5 (by simp) (by simp))
  have e22 : υ.1 22 = σ.1 22 - 1 := by rw [r5.1 22 (by simp)]; simp only [zF_1, if_true]
  have e18 : υ.2 18 = zcat σ (σ.2 21 (σ.1 22 - 1).toNat) := r4
  have etr : υ.2 22 = σ.2 22 := hfr.2 22 (by simp)
  have ect : υ.2 21 = σ.2 21 := hfr.2 21 (by simp)
  refine ⟨υ, r1, ⟨by omega, by omega, fun i hi => ?_, fun t ht => ?_, fun c hh => ?_, fun c d hcd hd => ?_⟩, hfr, e22, r2, r3, e18, fun t t0 t1 => ?_⟩
  · rw [e18]
    unfold zcat
    have key : ∀ (n : Nat) (t : Nat) (f : Nat → Int), (n : Int) ≤ σ.1 23 → (∀ i : Nat, i < 263 → -1 ≤ f i ∧ f i ≤ 60000) → ∀ i : Nat, i < 263 → -1 ≤ zrs (σ.2 22) t n f i ∧ zrs (σ.2 22) t n f i ≤ 60000 := by
      intro n
      induction n with
      | zero => intro t f _ hf; exact hf
      | succ n ih =>
        intro t f hn hf
        show ∀ i : Nat, i < 263 → -1 ≤ (if n + 1 ≤ t then f else zrs (σ.2 22) t n (zun (σ.2 22 n) f)) i ∧ (if n + 1 ≤ t then f else zrs (σ.2 22) t n (zun (σ.2 22 n) f)) i ≤ 60000
        by_cases q : n + 1 ≤ t
        · rw [if_pos q]; exact hf
        · rw [if_neg q]
          refine ih t _ (by omega) (fun i hi => ?_)
          have := i4 n (by omega)
          unfold zun
          rw [zupd_e]
          by_cases e : i = (zshr (σ.2 22 n) 16).toNat
          · rw [if_pos e]; omega
          · rw [if_neg e]; exact hf i hi
    exact key _ _ _ (by omega) i3 i hi
  · rw [etr]; exact i4 t (by omega)
  · rw [ect]
    have g1 := i5 c (by omega)
    have g2 := i6 c (σ.1 22 - 1).toNat (by omega) (by omega)
    omega
  · rw [ect]; exact i6 c d hcd (by omega)
  · unfold zcat
    rw [etr, r2, e18]
    unfold zcat
    exact zrs_two (by omega) _ _ (by omega)
theorem znext_no (h : σ.1 22 ≤ 0) : zMachine_nextChoice N σ = some (-2, σ) := by
  rw [zMachine_nextChoice_u, if_neg (by omega)]
end CL
