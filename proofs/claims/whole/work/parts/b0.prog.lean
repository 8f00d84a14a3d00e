/-! a pattern that both have read: the class's nodes against the reference's tree.
 en: the class's node at which a node of the tree begins; fin: where an alternative's terms end; lv: how deep; ow, gw, kw: whose a node, a group, a look is; ia: a term of an alternative -/
def pex (μ : z_S) (en : Int → Int) (n : Int) : Int := if 12 ≤ μ.2 3 n.toNat ∧ μ.2 3 n.toNat ≤ 15 then en n + 1 else en n
def pTest (σ μ : z_S) (en : Int → Int) (n : Int) : Prop :=
  (μ.2 3 n.toNat = 3 → σ.2 1 (en n).toNat = 1 ∧ σ.2 3 (en n).toNat = μ.2 4 n.toNat ∧ 0 ≤ μ.2 4 n.toNat ∧ μ.2 4 n.toNat ≤ 65535) ∧
  (μ.2 3 n.toNat = 4 → σ.2 1 (en n).toNat = 2) ∧
  (μ.2 3 n.toNat = 5 → σ.2 1 (en n).toNat = 3 ∧ σ.2 3 (en n).toNat = 65536 + μ.2 4 n.toNat ∧ uLt (μ.2 4 n.toNat)) ∧
  (μ.2 3 n.toNat = 6 → ((μ.2 6 n.toNat = 0 ∧ σ.2 1 (en n).toNat = 4) ∨ (μ.2 6 n.toNat = 1 ∧ σ.2 1 (en n).toNat = 5)) ∧ σ.2 3 (en n).toNat = μ.2 4 n.toNat ∧ σ.2 4 (en n).toNat = μ.2 5 n.toNat ∧ 0 ≤ μ.2 4 n.toNat ∧ μ.2 4 n.toNat ≤ μ.2 5 n.toNat ∧ μ.2 5 n.toNat ≤ μ.1 10) ∧
  (μ.2 3 n.toNat = 7 → σ.2 1 (en n).toNat = 6 ∧ (σ.2 3 (en n).toNat = μ.2 4 n.toNat ∨ (1000 < σ.2 3 (en n).toNat ∧ 1000 < μ.2 4 n.toNat)) ∧ 1 ≤ μ.2 4 n.toNat ∧ 0 ≤ μ.2 5 n.toNat) ∧
  (μ.2 3 n.toNat = 8 → σ.2 1 (en n).toNat = 7) ∧ (μ.2 3 n.toNat = 9 → σ.2 1 (en n).toNat = 8) ∧ (μ.2 3 n.toNat = 10 → σ.2 1 (en n).toNat = 9) ∧ (μ.2 3 n.toNat = 11 → σ.2 1 (en n).toNat = 10)
/-- an alternative: its own node, its successor, its first term -/
def pAlt (σ μ : z_S) (en fin lv : Int → Int) (ia : Int → Prop) (n : Int) : Prop :=
  σ.2 1 (en n).toNat = 11 ∧ σ.2 3 (en n).toNat = (if μ.2 9 n.toNat < 0 then -1 else en (μ.2 9 n.toNat)) ∧
  (0 ≤ μ.2 9 n.toNat → μ.2 9 n.toNat < μ.1 8 ∧ μ.2 3 (μ.2 9 n.toNat).toNat = 2 ∧ fin (μ.2 9 n.toNat) = fin n ∧ lv (μ.2 9 n.toNat) = lv n) ∧
  σ.2 2 (en n).toNat = (if μ.2 7 n.toNat < 0 then fin n else en (μ.2 7 n.toNat)) ∧
  (0 ≤ μ.2 7 n.toNat → μ.2 7 n.toNat < μ.1 8 ∧ ia (μ.2 7 n.toNat) ∧ fin (μ.2 7 n.toNat) = fin n ∧ lv (μ.2 7 n.toNat) = lv n)
/-- a term of an alternative: what comes behind it -/
def pIa (σ μ : z_S) (en fin lv : Int → Int) (ia : Int → Prop) (n : Int) : Prop :=
  3 ≤ μ.2 3 n.toNat ∧ σ.2 2 (pex μ en n).toNat = (if μ.2 9 n.toNat < 0 then fin n else en (μ.2 9 n.toNat)) ∧
  (0 ≤ μ.2 9 n.toNat → μ.2 9 n.toNat < μ.1 8 ∧ ia (μ.2 9 n.toNat) ∧ fin (μ.2 9 n.toNat) = fin n ∧ lv (μ.2 9 n.toNat) = lv n)
/-- where an alternative's terms end: at the pattern's end, or at the closing node of the parenthesis around -/
def pFin (μ : z_S) (en fin lv : Int → Int) (n : Int) : Prop :=
  (fin n = 0 ∧ 1 ≤ lv n) ∨ ∃ P, 0 ≤ P ∧ P < μ.1 8 ∧ 12 ≤ μ.2 3 P.toNat ∧ μ.2 3 P.toNat ≤ 15 ∧ fin n = en P + 1 ∧ lv n = lv P + 1
def pPar (σ μ : z_S) (en fin lv ow gw kw : Int → Int) (n : Int) : Prop :=
  σ.2 1 (en n).toNat = 2 * μ.2 3 n.toNat - 9 ∧ σ.2 1 (en n + 1).toNat = 2 * μ.2 3 n.toNat - 8 ∧ ow (en n + 1) = n ∧ σ.2 3 (en n + 1).toNat = σ.2 3 (en n).toNat ∧
  (0 ≤ μ.2 7 n.toNat ∧ μ.2 7 n.toNat < μ.1 8 ∧ μ.2 3 (μ.2 7 n.toNat).toNat = 1) ∧
  (0 ≤ μ.2 7 (μ.2 7 n.toNat).toNat ∧ μ.2 7 (μ.2 7 n.toNat).toNat < μ.1 8 ∧ μ.2 3 (μ.2 7 (μ.2 7 n.toNat).toNat).toNat = 2 ∧ fin (μ.2 7 (μ.2 7 n.toNat).toNat) = en n + 1 ∧ lv (μ.2 7 (μ.2 7 n.toNat).toNat) = lv n + 1) ∧
  σ.2 2 (en n).toNat = en (μ.2 7 (μ.2 7 n.toNat).toNat) ∧
  (μ.2 3 n.toNat = 12 → σ.2 3 (en n).toNat = μ.2 4 n.toNat ∧ 1 ≤ μ.2 4 n.toNat ∧ μ.2 4 n.toNat ≤ 20 ∧ gw (μ.2 4 n.toNat) = n) ∧
  (14 ≤ μ.2 3 n.toNat → 0 ≤ σ.2 3 (en n).toNat ∧ σ.2 3 (en n).toNat < 50 ∧ kw (σ.2 3 (en n).toNat) = n)
def pBnd (c m : Int) : Prop := (c = m ∧ m ≤ 10000) ∨ (10000 < c ∧ 10000 < m)
def pRep (σ μ : z_S) (en lv ow : Int → Int) (n : Int) : Prop :=
  σ.2 1 (en n).toNat = 12 ∧ σ.2 1 (en n + 1).toNat = 13 ∧ σ.2 1 (en n + 2).toNat = 14 ∧ ow (en n) = n ∧
  (0 ≤ σ.2 3 (en n).toNat ∧ σ.2 3 (en n).toNat < 100 ∧ σ.2 3 (en n + 1).toNat = σ.2 3 (en n).toNat ∧ σ.2 3 (en n + 2).toNat = σ.2 3 (en n).toNat ∧ σ.2 12 (σ.2 3 (en n).toNat).toNat = en n) ∧
  (0 ≤ μ.2 7 n.toNat ∧ μ.2 7 n.toNat < μ.1 8 ∧ ((3 ≤ μ.2 3 (μ.2 7 n.toNat).toNat ∧ μ.2 3 (μ.2 7 n.toNat).toNat ≤ 7) ∨ μ.2 3 (μ.2 7 n.toNat).toNat = 12 ∨ μ.2 3 (μ.2 7 n.toNat).toNat = 13) ∧ lv (μ.2 7 n.toNat) = lv n) ∧
  σ.2 2 (en n + 1).toNat = en (μ.2 7 n.toNat) ∧ σ.2 2 (pex μ en (μ.2 7 n.toNat)).toNat = en n + 2 ∧
  (0 ≤ μ.2 4 n.toNat ∧ pBnd (σ.2 7 (σ.2 3 (en n).toNat).toNat) (μ.2 4 n.toNat) ∧ 0 ≤ μ.2 5 n.toNat ∧ μ.2 5 n.toNat ≤ 1000000 ∧ μ.2 4 n.toNat ≤ 1000000 ∧ pBnd (σ.2 8 (σ.2 3 (en n).toNat).toNat) (μ.2 5 n.toNat)) ∧
  (σ.2 9 (σ.2 3 (en n).toNat).toNat = μ.2 6 n.toNat ∧ (μ.2 6 n.toNat = 0 ∨ μ.2 6 n.toNat = 1)) ∧
  (σ.2 10 (σ.2 3 (en n).toNat).toNat = μ.2 10 n.toNat ∧ σ.2 11 (σ.2 3 (en n).toNat).toNat = μ.2 11 n.toNat ∧ 0 ≤ μ.2 10 n.toNat ∧ μ.2 11 n.toNat ≤ 20 ∧ μ.2 10 n.toNat ≤ 20)
/-- what holds of each node -/
def pNode (σ μ : z_S) (en fin lv ow gw kw : Int → Int) (ia : Int → Prop) (n : Int) : Prop :=
  (1 ≤ μ.2 3 n.toNat ∧ μ.2 3 n.toNat ≤ 16) ∧ (2 ≤ μ.2 3 n.toNat → 1 ≤ en n ∧ en n + 2 < 602 ∧ 1 ≤ lv n ∧ lv n ≤ 41) ∧
  pTest σ μ en n ∧ (μ.2 3 n.toNat = 2 → pAlt σ μ en fin lv ia n ∧ pFin μ en fin lv n) ∧ (ia n → pIa σ μ en fin lv ia n ∧ pFin μ en fin lv n) ∧
  (12 ≤ μ.2 3 n.toNat → μ.2 3 n.toNat ≤ 15 → pPar σ μ en fin lv ow gw kw n) ∧ (μ.2 3 n.toNat = 16 → pRep σ μ en lv ow n)
/-- what holds of each member of a class -/
def pMem (σ μ : z_S) (i : Nat) : Prop :=
  (μ.2 13 i < 0 → uLt (μ.2 12 i) ∧ σ.2 5 i = 65536 + μ.2 12 i) ∧ (0 ≤ μ.2 13 i → 0 ≤ μ.2 12 i ∧ μ.2 12 i ≤ 65535 ∧ σ.2 5 i = μ.2 12 i ∧ σ.2 6 i = μ.2 13 i)
def pRoot (σ μ : z_S) (en fin lv : Int → Int) : Prop :=
  σ.2 1 0 = 0 ∧ μ.2 3 0 = 1 ∧ 0 ≤ μ.2 7 0 ∧ μ.2 7 0 < μ.1 8 ∧ μ.2 3 (μ.2 7 0).toNat = 2 ∧ en (μ.2 7 0) = 1 ∧ fin (μ.2 7 0) = 0 ∧ lv (μ.2 7 0) = 1
def pCnt (σ μ : z_S) : Prop :=
  1 ≤ μ.1 8 ∧ μ.1 8 ≤ 1300 ∧ 0 ≤ μ.1 9 ∧ μ.1 9 ≤ 20 ∧ σ.1 8 = μ.1 9 ∧ 0 ≤ μ.1 10 ∧ μ.1 10 ≤ 200
/-- an end of a parenthesis in the class -/
abbrev pEnd (σ : z_S) (p : Int) : Prop := σ.2 1 p.toNat = 16 ∨ σ.2 1 p.toNat = 18 ∨ σ.2 1 p.toNat = 20 ∨ σ.2 1 p.toNat = 22
/-- from end to end it goes outwards -/
def pCls (σ μ : z_S) (en lv ow : Int → Int) : Prop := σ.1 4 ≤ 602 ∧ (∀ n, 0 ≤ n → n < μ.1 8 → 12 ≤ μ.2 3 n.toNat → μ.2 3 n.toNat ≤ 15 → en n + 1 < σ.1 4) ∧
  ∀ p, 0 ≤ p → p < σ.1 4 → pEnd σ p → (0 ≤ lv (ow p) ∧ lv (ow p) ≤ 41) ∧ (pEnd σ (σ.2 2 p.toNat) → 0 ≤ lv (ow (σ.2 2 p.toNat)) ∧ lv (ow (σ.2 2 p.toNat)) < lv (ow p))
/-- the whole -/
def pAll (σ μ : z_S) (en fin lv ow gw kw : Int → Int) (ia : Int → Prop) : Prop :=
  pCnt σ μ ∧ pRoot σ μ en fin lv ∧ (∀ n, 0 ≤ n → n < μ.1 8 → pNode σ μ en fin lv ow gw kw ia n) ∧ (∀ i : Nat, (i : Int) < μ.1 10 → pMem σ μ i) ∧
  (∀ n, 0 ≤ n → n < μ.1 8 → μ.2 3 n.toNat = 7 → μ.2 4 n.toNat ≤ μ.1 9) ∧ pCls σ μ en lv ow
def pProg (σ μ : z_S) : Prop := (σ.1 9 = μ.1 3 ∧ zB (σ.1 9)) ∧ (σ.1 10 = μ.1 4 ∧ zB (σ.1 10)) ∧ ∃ (en fin lv ow gw kw : Int → Int) (ia : Int → Prop), pAll σ μ en fin lv ow gw kw ia
/-- only the program's own fields and arrays count -/
def cutC (σ : z_S) : z_S := (fun k => if 4 ≤ k ∧ k ≤ 10 then σ.1 k else 0, fun j => if 1 ≤ j ∧ j ≤ 12 then σ.2 j else fun _ => 0)
def cutM (μ : z_S) : z_S := (fun k => if k = 3 ∨ k = 4 ∨ (8 ≤ k ∧ k ≤ 10) then μ.1 k else 0, fun j => if 3 ≤ j ∧ j ≤ 13 then μ.2 j else fun _ => 0)
theorem pAll_cut (σ μ : z_S) (en fin lv ow gw kw : Int → Int) (ia : Int → Prop) : pAll (cutC σ) (cutM μ) en fin lv ow gw kw ia = pAll σ μ en fin lv ow gw kw ia := rfl
theorem pProg_cut (σ μ : z_S) : pProg (cutC σ) (cutM μ) = pProg σ μ := rfl
theorem cutC_fr {σ τ : z_S} {ks js : List Nat} (h : zfr ks js σ τ) (h1 : ∀ k ∈ ks, ¬ (4 ≤ k ∧ k ≤ 10)) (h2 : ∀ j ∈ js, ¬ (1 ≤ j ∧ j ≤ 12)) : cutC τ = cutC σ := by
  refine Prod.ext (funext fun k => ?_) (funext fun j => ?_)
  · show (if 4 ≤ k ∧ k ≤ 10 then τ.1 k else 0) = if 4 ≤ k ∧ k ≤ 10 then σ.1 k else 0
    by_cases q : 4 ≤ k ∧ k ≤ 10
    · rw [if_pos q, if_pos q]; exact h.1 k (fun z => h1 k z q)
    · rw [if_neg q, if_neg q]
  · show (if 1 ≤ j ∧ j ≤ 12 then τ.2 j else fun _ => 0) = if 1 ≤ j ∧ j ≤ 12 then σ.2 j else fun _ => 0
    by_cases q : 1 ≤ j ∧ j ≤ 12
    · rw [if_pos q, if_pos q]; exact h.2 j (fun z => h2 j z q)
    · rw [if_neg q, if_neg q]
theorem cutM_fr {σ τ : z_S} {ks js : List Nat} (h : zfr ks js σ τ) (h1 : ∀ k ∈ ks, ¬ (k = 3 ∨ k = 4 ∨ (8 ≤ k ∧ k ≤ 10))) (h2 : ∀ j ∈ js, ¬ (3 ≤ j ∧ j ≤ 13)) : cutM τ = cutM σ := by
  refine Prod.ext (funext fun k => ?_) (funext fun j => ?_)
  · show (if k = 3 ∨ k = 4 ∨ (8 ≤ k ∧ k ≤ 10) then τ.1 k else 0) = if k = 3 ∨ k = 4 ∨ (8 ≤ k ∧ k ≤ 10) then σ.1 k else 0
    by_cases q : k = 3 ∨ k = 4 ∨ (8 ≤ k ∧ k ≤ 10)
    · rw [if_pos q, if_pos q]; exact h.1 k (fun z => h1 k z q)
    · rw [if_neg q, if_neg q]
  · show (if 3 ≤ j ∧ j ≤ 13 then τ.2 j else fun _ => 0) = if 3 ≤ j ∧ j ≤ 13 then σ.2 j else fun _ => 0
    by_cases q : 3 ≤ j ∧ j ≤ 13
    · rw [if_pos q, if_pos q]; exact h.2 j (fun z => h2 j z q)
    · rw [if_neg q, if_neg q]
theorem pAll_mv {σ σ' μ μ' : z_S} {en fin lv ow gw kw : Int → Int} {ia : Int → Prop} (hc : cutC σ' = cutC σ) (hm : cutM μ' = cutM μ) (h : pAll σ μ en fin lv ow gw kw ia) : pAll σ' μ' en fin lv ow gw kw ia := by
  rw [← pAll_cut, hc, hm, pAll_cut]; exact h
theorem pProg_mv {σ σ' μ μ' : z_S} (hc : cutC σ' = cutC σ) (hm : cutM μ' = cutM μ) (h : pProg σ μ) : pProg σ' μ' := by
  rw [← pProg_cut, hc, hm, pProg_cut]; exact h
