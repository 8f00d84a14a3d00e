/-! units: what both sides say of them -/
def zb (b : Bool) : Int := if b = true then 1 else 0
theorem zb_t : zb true = 1 := rfl
theorem zb_f : zb false = 0 := rfl
theorem zb_0 {b : Bool} : zb b = 0 ↔ b = false := by cases b <;> decide
theorem zb_1 {b : Bool} : zb b = 1 ↔ b = true := by cases b <;> decide
theorem zb_B (b : Bool) : zB (zb b) := by cases b <;> decide
theorem zb_z (b : Bool) : zin (zb b) := by cases b <;> decide
theorem zB_0 : zB 0 := Or.inl rfl
theorem zB_1 : zB 1 := Or.inr rfl
def uD (u : Int) : Bool := decide (48 ≤ u ∧ u ≤ 57)
def uL (u : Int) : Bool := decide ((65 ≤ u ∧ u ≤ 90) ∨ (97 ≤ u ∧ u ≤ 122))
def uW (u : Int) : Bool := uL u || uD u || decide (u = 95)
def uE (u : Int) : Bool := decide (u = 10 ∨ u = 13 ∨ u = 8232 ∨ u = 8233)
def uK (u : Int) : Bool := decide (u = 9 ∨ u = 11 ∨ u = 12 ∨ u = 32 ∨ u = 160 ∨ u = 5760 ∨ u = 6158 ∨ u = 8239 ∨ u = 8287 ∨ u = 12288 ∨ u = 65279 ∨ (8192 ≤ u ∧ u ≤ 8202))
def uN (u : Int) : Bool := uW u || decide (u = 36 ∨ u = 170 ∨ u = 181 ∨ u = 186 ∨ (192 ≤ u ∧ u ≤ 255 ∧ u ≠ 215 ∧ u ≠ 247))
def uU (u : Int) : Int := if (97 ≤ u ∧ u ≤ 122) ∨ (224 ≤ u ∧ u ≤ 254 ∧ u ≠ 247) then u - 32 else if u = 255 then 376 else if u = 181 then 924 else u
def uT (u : Int) : Int := if uU u = u then (if (65 ≤ u ∧ u ≤ 90) ∨ (192 ≤ u ∧ u ≤ 222 ∧ u ≠ 215) then u + 32 else if u = 376 then 255 else if u = 924 then 181 else u) else uU u
def uX (u : Int) : Int := if 48 ≤ u ∧ u ≤ 57 then u - 48 else if 97 ≤ u ∧ u ≤ 102 then u - 87 else if 65 ≤ u ∧ u ≤ 70 then u - 55 else -1
/-- a set by its letter -/
def uS (l u : Int) : Bool := if l = 100 then uD u else if l = 68 then !uD u else if l = 119 then uW u else if l = 87 then !uW u else if l = 115 then (uK u || uE u) else !(uK u || uE u)
def uLt (l : Int) : Prop := l = 100 ∨ l = 68 ∨ l = 119 ∨ l = 87 ∨ l = 115 ∨ l = 83
theorem uU_z {u : Int} (h : zin u) (h2 : -2147483000 ≤ u) : zin (uU u) := by
  unfold uU
  split
  · exact ⟨by omega, by omega⟩
  · split
    · decide
    · split
      · decide
      · exact h
section UN
variable {N : Nat} {u : Int} {σ : z_S}
theorem zc_isDigit : zUnits_isDigit N u σ = some (zb (uD u), σ) := by
  rw [zUnits_isDigit_u]; unfold zb uD
  (repeat' split) <;> simp_all <;> omega
theorem zc_isLetter : zUnits_isLetter N u σ = some (zb (uL u), σ) := by
  rw [zUnits_isLetter_u]; unfold zb uL
  (repeat' split) <;> simp_all <;> omega
theorem zc_isWord : zUnits_isWord N u σ = some (zb (uW u), σ) := by
  rw [zUnits_isWord_u, zc_isLetter]; unfold uW
  simp only [Option.bind_some, zc_isDigit, zb_0]
  cases h1 : uL u <;> cases h2 : uD u <;> by_cases h3 : u = 95 <;> simp [zb, zB, h3]
theorem zc_isLineEnd : zUnits_isLineEnd N u σ = some (zb (uE u), σ) := by
  rw [zUnits_isLineEnd_u]; unfold zb uE
  (repeat' split) <;> simp_all
theorem zc_isBlank : zUnits_isBlank N u σ = some (zb (uK u), σ) := by
  rw [zUnits_isBlank_u]; unfold zb uK
  simp only [decide_eq_true_eq, if_pos zB_0, if_pos zB_1]
  grind (splits := 25)
theorem zc_isNamePart : zUnits_isNamePart N u σ = some (zb (uN u), σ) := by
  rw [zUnits_isNamePart_u]; unfold uN uW
  simp only [Option.bind_some, zc_isDigit, zc_isLetter, zb_0]
  cases h1 : uL u <;> cases h2 : uD u <;> simp [zb, zB] <;> (repeat' split) <;> simp_all <;> omega
theorem zc_inSet {l : Int} (hl : uLt l) : zUnits_inSet N (65536 + l) u σ = some (zb (uS l u), σ) := by
  rw [zUnits_inSet_u]
  simp only [Option.bind_some, zc_isDigit, zc_isLineEnd, zc_isBlank, zc_isWord, zb_0]
  rw [show (65536 : Int) + l - 65536 = l by omega]
  rcases hl with h | h | h | h | h | h <;> subst h <;> cases hD : uD u <;> cases hW : uW u <;> cases hK : uK u <;> cases hE : uE u <;> simp [uS, zb, zin, zB, hD, hW, hK, hE]
theorem zc_sixteenth (h : zin u) : zUnits_sixteenth N u σ = some (uX u, σ) := by
  rw [zUnits_sixteenth_u]; unfold uX
  (repeat' split) <;> first | rfl | (exfalso; omega) | (simp only [Option.some.injEq, Prod.mk.injEq, and_true]; omega)
theorem zc_upper (h : zin u) : zUnits_upper N u σ = some (uU u, σ) := by
  rw [zUnits_upper_u]; unfold uU
  (repeat' split) <;> first | rfl | (exfalso; omega) | (simp only [Option.some.injEq, Prod.mk.injEq, and_true]; omega)
theorem zc_twin (h : zin u) : zUnits_twin N u σ = some (uT u, σ) := by
  rw [zUnits_twin_u, zc_upper h]
  simp only [Option.bind_some]
  unfold uT
  by_cases e : uU u = u
  · rw [if_pos e, if_pos e]
    (repeat' split) <;> first | rfl | (exfalso; omega) | (simp only [Option.some.injEq, Prod.mk.injEq, and_true]; omega)
  · rw [if_neg e, if_neg e]
theorem zm_in {a b : Int} : zMod_in N u a b σ = some (zb (decide (a ≤ u ∧ u ≤ b)), σ) := by
  rw [zMod_in_u]; unfold zb
  (repeat' split) <;> simp_all <;> omega
theorem zm_isDigit : zMod_isDigit N u σ = some (zb (uD u), σ) := by
  rw [zMod_isDigit_u, zm_in]
  simp only [Option.bind_some]
  rw [if_pos (zb_B _)]; rfl
theorem zm_isLetter : zMod_isLetter N u σ = some (zb (uL u), σ) := by
  rw [zMod_isLetter_u, zm_in]; unfold uL
  simp only [Option.bind_some, zm_in, zb_0]
  by_cases h1 : (97 ≤ u ∧ u ≤ 122) <;> by_cases h2 : (65 ≤ u ∧ u ≤ 90) <;> simp [h1, h2, zb, zB]
theorem zm_isWord : zMod_isWord N u σ = some (zb (uW u), σ) := by
  rw [zMod_isWord_u, zm_isLetter]; unfold uW
  simp only [Option.bind_some, zm_isDigit, zb_0]
  cases h1 : uL u <;> cases h2 : uD u <;> by_cases h3 : u = 95 <;> simp [zb, zB, h3]
theorem zm_isLineEnd : zMod_isLineEnd N u σ = some (zb (uE u), σ) := by
  rw [zMod_isLineEnd_u]; unfold zb uE
  (repeat' split) <;> simp_all
theorem zm_isBlank : zMod_isBlank N u σ = some (zb (uK u), σ) := by
  rw [zMod_isBlank_u]; unfold uK
  simp only [Option.bind_some, zm_in, zb_0]
  simp only [decide_eq_false_iff_not, zb, decide_eq_true_eq, if_pos zB_0, if_pos zB_1]
  (repeat' split) <;> first | rfl | (exfalso; omega)
theorem zm_isNamed : zMod_isNamed N u σ = some (zb (uN u), σ) := by
  rw [zMod_isNamed_u, zm_isWord]; unfold uN
  simp only [Option.bind_some, zm_in, zb_0]
  cases h1 : uW u <;> simp [zb, zB] <;> (repeat' split) <;> simp_all <;> omega
theorem zm_inSet {l : Int} (hl : uLt l) : zMod_inSet N l u σ = some (zb (uS l u), σ) := by
  rw [zMod_inSet_u]
  simp only [Option.bind_some, zm_isDigit, zm_isLineEnd, zm_isBlank, zm_isWord, zb_0, zb_1]
  rcases hl with h | h | h | h | h | h <;> subst h <;> cases hD : uD u <;> cases hW : uW u <;> cases hK : uK u <;> cases hE : uE u <;> simp [uS, zb, zin, zB, hD, hW, hK, hE]
theorem zm_sixteen (h : zin u) : zMod_sixteen N u σ = some (uX u, σ) := by
  rw [zMod_sixteen_u, zm_isDigit]; unfold uX uD
  simp only [Option.bind_some, zm_in, zb_0]
  (repeat' split) <;> simp_all <;> omega
theorem zm_upper (h : zin u) : zMod_upper N u σ = some (uU u, σ) := by
  rw [zMod_upper_u, zm_in]; unfold uU
  simp only [Option.bind_some, zm_in, zb_0]
  (repeat' split) <;> simp_all <;> omega
end UN
