section RP
variable {N : Nat} {σ μ : z_S} {G : Nat → Int → Int}
def cRep3 (σ : z_S) : z_S := cNode (cNode (cNode (zF σ 6 (σ.1 6 + 1)) 12 (σ.1 6) 0) 13 (σ.1 6) 0) 14 (σ.1 6) 0
def cRep (σ : z_S) (lz : Int) : z_S := zA (zA (zA (zA (zA (zA (zA (zA (cRep3 σ) 2 (σ.1 4 + 1).toNat (σ.1 19)) 2 (σ.1 20).toNat (σ.1 4 + 2)) 12 (σ.1 6).toNat (σ.1 4)) 7 (σ.1 6).toNat (σ.1 17)) 8 (σ.1 6).toNat (σ.1 18)) 9 (σ.1 6).toNat lz) 10 (σ.1 6).toNat (σ.1 21)) 11 (σ.1 6).toNat (σ.1 8)
theorem cRep_e (hx : xL σ μ) (h0 : 0 ≤ σ.1 4) (h1 : σ.1 4 + 3 ≤ 602) (r0 : 0 ≤ σ.1 6) (r1 : σ.1 6 < 100) (f0 : 0 ≤ σ.1 19) (l0 : 0 ≤ σ.1 20) (l1 : σ.1 20 < 602) {b : Int} (hb : σ.1 12 = b) (hb0 : 0 ≤ b) (hb1 : b ≤ 300) :
    zReader_appendRepetition N σ = (zReader_append N (σ.1 4) (σ.1 4) (cRep (if uA μ b = 63 then zF σ 12 (b + 1) else σ) (if uA μ b = 63 then 1 else 0))).bind fun q => some (0, q.2) := by
  have h10 : ((1 : Nat) = 0) = False := by simp
  have i1 : zin (b + 1) := ⟨by omega, by omega⟩
  have i6 : zin (σ.1 6 + 1) := ⟨by omega, by omega⟩
  have hb2 : (zF σ 12 (b + 1)).1 6 = σ.1 6 := rfl
  have main : ∀ (τ : z_S) (lz : Int), (∀ k, k ≠ 12 → τ.1 k = σ.1 k) → ((zProgram_addNode N 12 (τ.1 6) 0 (zF τ 6 (τ.1 6 + 1))).bind fun q62 => (zProgram_addNode N 13 (τ.1 6) 0 q62.2).bind fun q74 => (zProgram_addNode N 14 (τ.1 6) 0 q74.2).bind fun q87 => (zProgram_link N q74.1 (q87.2.1 19) q87.2).bind fun q102 => (zProgram_link N (q102.2.1 20) q87.1 q102.2).bind fun q115 => (zRows_write N 12 (τ.1 6) q62.1 q115.2).bind fun q127 => (zRows_write N 7 (τ.1 6) (q127.2.1 17) q127.2).bind fun q142 => (zRows_write N 8 (τ.1 6) (q142.2.1 18) q142.2).bind fun q157 => (zRows_write N 9 (τ.1 6) lz q157.2).bind fun q177 => (zRows_write N 10 (τ.1 6) (q177.2.1 21) q177.2).bind fun q192 => (zRows_write N 11 (τ.1 6) (q192.2.1 8) q192.2).bind fun q210 => (zReader_append N q62.1 q62.1 q210.2).bind fun q216 => some ((0 : Int), q216.2)) = (zReader_append N (σ.1 4) (σ.1 4) (cRep τ lz)).bind fun q => some (0, q.2) := by
    intro τ lz ht
    have t4 := ht 4 (by decide)
    have t6 := ht 6 (by decide)
    have t19 := ht 19 (by decide)
    have t20 := ht 20 (by decide)
    rw [cNode_e (σ := zF τ 6 (τ.1 6 + 1)) (by show 0 ≤ τ.1 4; omega) (by show τ.1 4 < 602; omega)]
    simp only [Option.bind_some]
    rw [cNode_e (σ := cNode (zF τ 6 (τ.1 6 + 1)) 12 (τ.1 6) 0) (by show 0 ≤ τ.1 4 + 1; omega) (by show τ.1 4 + 1 < 602; omega)]
    simp only [Option.bind_some]
    rw [cNode_e (σ := cNode (cNode (zF τ 6 (τ.1 6 + 1)) 12 (τ.1 6) 0) 13 (τ.1 6) 0) (by show 0 ≤ τ.1 4 + 1 + 1; omega) (by show τ.1 4 + 1 + 1 < 602; omega)]
    simp only [Option.bind_some]
    rw [show (cNode (zF τ 6 (τ.1 6 + 1)) 12 (τ.1 6) 0).1 4 = τ.1 4 + 1 from rfl, cLink_e (by omega) (by omega)]
    simp only [Option.bind_some]
    rw [cLink_e (by show 0 ≤ τ.1 20; omega) (by show τ.1 20 < 602; omega)]
    simp only [Option.bind_some]
    rw [zrw (by decide) (by omega) (by show _ < (100 : Int); omega)]
    simp only [Option.bind_some]
    rw [zrw (by decide) (by omega) (by show _ < (100 : Int); omega)]
    simp only [Option.bind_some]
    rw [zrw (by decide) (by omega) (by show _ < (100 : Int); omega)]
    simp only [Option.bind_some]
    rw [zrw (by decide) (by omega) (by show _ < (100 : Int); omega)]
    simp only [Option.bind_some]
    rw [zrw (by decide) (by omega) (by show _ < (100 : Int); omega)]
    simp only [Option.bind_some]
    rw [zrw (by decide) (by omega) (by show _ < (100 : Int); omega)]
    simp only [Option.bind_some]
    rw [show (zF τ 6 (τ.1 6 + 1)).1 4 = σ.1 4 from t4]
    have e2 : (cNode (cNode (zF τ 6 (τ.1 6 + 1)) 12 (τ.1 6) 0) 13 (τ.1 6) 0).1 4 = τ.1 4 + 2 := by
      show τ.1 4 + 1 + 1 = _; omega
    rw [e2, ← t4]
    rfl
  rw [zReader_appendRepetition_u, hb, zua hx]
  simp only [Option.bind_some, h10, if_true, if_false]
  by_cases c : uA μ b = 63
  · rw [if_pos c, if_pos c, if_pos c, hb, if_pos i1, if_pos (show zin ((zF σ 12 (b + 1)).1 6 + 1) from i6)]
    exact main (zF σ 12 (b + 1)) 1 (fun k hk => by rw [zF_1, if_neg hk])
  · rw [if_neg c, if_neg c, if_neg c, if_pos i6]
    exact main σ 0 (fun k _ => rfl)
end RP
