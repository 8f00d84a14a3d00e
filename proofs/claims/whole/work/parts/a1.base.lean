/-! states: reading through writes; what stays -/
theorem zF_1 (σ : z_S) (k : Nat) (v : Int) (j : Nat) : (zF σ k v).1 j = if j = k then v else σ.1 j := rfl
theorem zF_2 (σ : z_S) (k : Nat) (v : Int) : (zF σ k v).2 = σ.2 := rfl
theorem zA_1 (σ : z_S) (a i : Nat) (v : Int) : (zA σ a i v).1 = σ.1 := rfl
theorem zA_2 (σ : z_S) (a i : Nat) (v : Int) (b : Nat) : (zA σ a i v).2 b = if b = a then zupd (σ.2 a) i v else σ.2 b := rfl
theorem zupd_s (f : Nat → Int) (i : Nat) (v : Int) : zupd f i v i = v := if_pos rfl
theorem zupd_n {f : Nat → Int} {i j : Nat} {v : Int} (h : j ≠ i) : zupd f i v j = f j := if_neg h
theorem zupd_e (f : Nat → Int) (i j : Nat) (v : Int) : zupd f i v j = if j = i then v else f j := rfl
theorem zupd_id {f : Nat → Int} {i : Nat} {v : Int} (h : f i = v) : zupd f i v = f := funext fun j => by
  unfold zupd
  by_cases e : j = i
  · rw [if_pos e, e, h]
  · rw [if_neg e]
/-- only these fields and arrays may have changed -/
def zfr (ks js : List Nat) (σ τ : z_S) : Prop := (∀ k, k ∉ ks → τ.1 k = σ.1 k) ∧ ∀ j, j ∉ js → τ.2 j = σ.2 j
theorem zfr_rf {ks js : List Nat} {σ : z_S} : zfr ks js σ σ := ⟨fun _ _ => rfl, fun _ _ => rfl⟩
theorem zfr_tr {ks js : List Nat} {σ τ υ : z_S} (h : zfr ks js σ τ) (g : zfr ks js τ υ) : zfr ks js σ υ := ⟨fun k hk => (g.1 k hk).trans (h.1 k hk), fun j hj => (g.2 j hj).trans (h.2 j hj)⟩
theorem zfr_up {ks js ks' js' : List Nat} {σ τ : z_S} (h : zfr ks js σ τ) (h1 : ∀ k ∈ ks, k ∈ ks') (h2 : ∀ j ∈ js, j ∈ js') : zfr ks' js' σ τ := ⟨fun k hk => h.1 k (fun q => hk (h1 k q)), fun j hj => h.2 j (fun q => hj (h2 j q))⟩
theorem zfr_F {ks js : List Nat} {σ τ : z_S} {k : Nat} {v : Int} (h : zfr ks js σ τ) (hk : k ∈ ks) : zfr ks js σ (zF τ k v) := ⟨fun i hi => by
  rw [zF_1, if_neg (fun e : i = k => hi (e ▸ hk))]; exact h.1 i hi, h.2⟩
theorem zfr_A {ks js : List Nat} {σ τ : z_S} {a i : Nat} {v : Int} (h : zfr ks js σ τ) (ha : a ∈ js) : zfr ks js σ (zA τ a i v) := ⟨h.1, fun j hj => by
  rw [zA_2, if_neg (fun e : j = a => hj (e ▸ ha))]; exact h.2 j hj⟩
section RW
variable {N j : Nat} {i v : Int} {σ : z_S}
theorem zrr (hj : j < 25) (h0 : 0 ≤ i) (h1 : i < (lenC j : Nat)) : zRows_read N j i σ = some (σ.2 j i.toNat, σ) := by
  rw [zRows_read_u, if_neg (by omega), if_pos hj, if_neg (by omega), if_pos ⟨hj, h0, h1⟩]
theorem zrw (hj : j < 25) (h0 : 0 ≤ i) (h1 : i < (lenC j : Nat)) : zRows_write N j i v σ = some (0, zA σ j i.toNat v) := by
  rw [zRows_write_u, if_neg (by omega), if_pos hj, if_neg (by omega), if_pos ⟨hj, h0, h1⟩]
theorem zstep (h : σ.1 27 < σ.1 25) (h0 : 0 ≤ σ.1 27) (h1 : σ.1 25 ≤ 10000) : zMachine_takesStep N σ = some (1, zF σ 27 (σ.1 27 + 1)) := by
  rw [zMachine_takesStep_u, if_pos h, if_pos ⟨by omega, by omega⟩]
theorem zstep_no (h : ¬ σ.1 27 < σ.1 25) : zMachine_takesStep N σ = some (0, σ) := by
  rw [zMachine_takesStep_u, if_neg h]
theorem zspend (h : σ.1 16 ≠ σ.1 17) (h0 : 0 ≤ σ.1 16) (h1 : σ.1 16 ≤ 10000) : zMod_spends N σ = some (1, zF σ 16 (σ.1 16 + 1)) := by
  rw [zMod_spends_u, if_neg h, if_pos ⟨by omega, by omega⟩]
theorem zspend_no (h : σ.1 16 = σ.1 17) : zMod_spends N σ = some (0, σ) := by
  rw [zMod_spends_u, if_pos h]
end RW
/-- a new row of the reference -/
def zrow (μ : z_S) (a b c d e f : Int) : z_S := zF (zA (zA (zA (zA (zA (zA μ 18 (μ.1 18).toNat a) 19 (μ.1 18).toNat b) 20 (μ.1 18).toNat c) 21 (μ.1 18).toNat d) 22 (μ.1 18).toNat e) 23 (μ.1 18).toNat f) 18 (μ.1 18 + 1)
theorem zrow_e {N : Nat} {μ : z_S} {a b c d e f : Int} (h0 : 0 ≤ μ.1 18) (h1 : μ.1 18 < 90000) : zMod_row N a b c d e f μ = some (μ.1 18, zrow μ a b c d e f) := by
  rw [zMod_row_u, if_pos ⟨h0, by omega⟩, if_pos ⟨by omega, by omega⟩, if_pos ⟨by omega, by omega⟩, show μ.1 18 + 1 - 1 = μ.1 18 by omega]
  rfl
theorem zrow_fr {μ : z_S} {a b c d e f : Int} : zfr [18] [18, 19, 20, 21, 22, 23] μ (zrow μ a b c d e f) := by
  unfold zrow
  refine zfr_F (zfr_A (zfr_A (zfr_A (zfr_A (zfr_A (zfr_A zfr_rf ?_) ?_) ?_) ?_) ?_) ?_) ?_ <;> simp
/-- the entry on the pile -/
def zpush (μ : z_S) (r w l : Int) : z_S := (fun k => if k = 19 then μ.1 19 + 1 else μ.1 k, fun j => if j = 24 then zupd (μ.2 24) (μ.1 19).toNat r else if j = 25 then zupd (μ.2 25) (μ.1 19).toNat w else if j = 26 then zupd (μ.2 26) (μ.1 19).toNat l
  else if j = 27 then fun i => if 42 * (μ.1 19).toNat ≤ i ∧ i < 42 * (μ.1 19).toNat + 42 then μ.2 17 (i - 42 * (μ.1 19).toNat) else μ.2 27 i else μ.2 j)
theorem zpush_loop {N : Nat} {μ : z_S} (h0 : 0 ≤ μ.1 19) (h1 : μ.1 19 < 16000) : ∀ (n : Nat) (k : Nat) (τ : z_S), k ≤ 42 → 42 < k + n → τ.1 = μ.1 → (∀ j, j ≠ 27 → τ.2 j = μ.2 j) → (∀ i, τ.2 27 i = if 42 * (μ.1 19).toNat ≤ i ∧ i < 42 * (μ.1 19).toNat + k then μ.2 17 (i - 42 * (μ.1 19).toNat) else μ.2 27 i) →
    zMod_push_l33 N n (k : Int) τ = some (0, (fun k => if k = 19 then μ.1 19 + 1 else μ.1 k, fun j => if j = 27 then fun i => if 42 * (μ.1 19).toNat ≤ i ∧ i < 42 * (μ.1 19).toNat + 42 then μ.2 17 (i - 42 * (μ.1 19).toNat) else μ.2 27 i else μ.2 j)) := by
  intro n
  induction n with
  | zero => intro k τ h2 h3; omega
  | succ n ih =>
    intro k τ hk hn e1 e2 e3
    rw [zMod_push_l33_s, e1]
    by_cases hh : (42 : Int) ≤ k
    · rw [if_pos hh, if_pos ⟨by omega, by omega⟩]
      have hk2 : k = 42 := by omega
      subst hk2
      congr 2
      refine Prod.ext (funext fun j => ?_) (funext fun j => ?_)
      · rw [zF_1, e1]
      · show τ.2 j = _
        dsimp only
        by_cases q : j = 27
        · subst q; rw [if_pos rfl]; exact funext e3
        · rw [if_neg q]; exact e2 j q
    · have e4 : (42 * μ.1 19 + (k : Int)).toNat = 42 * (μ.1 19).toNat + k := by omega
      rw [if_neg hh, if_pos ⟨by omega, by omega⟩, if_pos ⟨by omega, by omega⟩, if_pos ⟨by omega, by omega⟩, if_pos ⟨by omega, by omega⟩, if_pos ⟨by omega, by omega⟩, e4]
      refine ih (k + 1) _ (by omega) (by omega) (by rw [zA_1, e1]) (fun j hj => by rw [zA_2, if_neg hj]; exact e2 j hj) (fun i => ?_)
      rw [zA_2, if_pos rfl, zupd_e, e2 17 (by decide), show (k : Int).toNat = k by omega]
      by_cases q : i = 42 * (μ.1 19).toNat + k
      · rw [if_pos q, if_pos ⟨by omega, by omega⟩, show i - 42 * (μ.1 19).toNat = k by omega]
      · rw [if_neg q, e3 i]
        by_cases q2 : 42 * (μ.1 19).toNat ≤ i ∧ i < 42 * (μ.1 19).toNat + k
        · rw [if_pos q2, if_pos ⟨by omega, by omega⟩]
        · rw [if_neg q2, if_neg (by omega)]
theorem zpush_e {N : Nat} {μ : z_S} {r w l : Int} (hN : 43 ≤ N) (h0 : 0 ≤ μ.1 19) (h1 : μ.1 19 < 16000) : zMod_push N r w l μ = some (0, zpush μ r w l) := by
  rw [zMod_push_u, if_pos ⟨h0, by omega⟩]
  have h := zpush_loop (N := N) (μ := zA (zA (zA μ 24 (μ.1 19).toNat r) 25 (μ.1 19).toNat w) 26 (μ.1 19).toNat l) h0 h1 N 0 (zA (zA (zA μ 24 (μ.1 19).toNat r) 25 (μ.1 19).toNat w) 26 (μ.1 19).toNat l) (by omega) (by omega) rfl (fun _ _ => rfl) (fun i => by rw [if_neg (by omega)])
  rw [show ((0 : Nat) : Int) = 0 from rfl] at h
  rw [h]
  congr 2
  refine Prod.ext rfl (funext fun j => ?_)
  dsimp only [zpush]
  by_cases q27 : j = 27
  · subst q27; simp [zA_1, zA_2]
  · rw [if_neg q27]
    by_cases q24 : j = 24
    · subst q24; simp [zA_1, zA_2]
    · by_cases q25 : j = 25
      · subst q25; simp [zA_1, zA_2]
      · by_cases q26 : j = 26
        · subst q26; simp [zA_1, zA_2]
        · simp [zA_2, q24, q25, q26, q27]
