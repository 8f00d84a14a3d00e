/-! the frame: a world's further cells stay -/
theorem g_app1 {D : va_G} {cl : List vw_C} {a b : va_W} {H : Heap} (h : va_P D cl (a ++ b) H) : va_P D cl a H := fun k q hk => h k q (by
  have : k < a.length := (List.getElem?_eq_some_iff.mp hk).1
  rw [List.getElem?_append_left this]; exact hk)
theorem g_app2 {D : va_G} {cl : List vw_C} {a b : va_W} {H : Heap} (h : va_P D cl (a ++ b) H) : va_P D cl b H := fun k q hk => h (a.length + k) q (by
  rw [List.getElem?_append_right (Nat.le_add_right _ _), Nat.add_sub_cancel_left]; exact hk)
theorem g_dapp1 {A : Nat → Prop} {a b : va_W} (h : va_D A (a ++ b)) : va_D A a := by
  have key : ∀ (k : Nat) (q : Nat × va_E), a[k]? = some q → (a ++ b)[k]? = some q := fun k q hk => by
    have : k < a.length := (List.getElem?_eq_some_iff.mp hk).1
    rw [List.getElem?_append_left this]; exact hk
  exact ⟨fun i j x y hi hj hxy => h.1 i j x y (key i x hi) (key j y hj) hxy, fun k q hk => h.2 k q (key k q hk)⟩
theorem g_dapp2 {A : Nat → Prop} {a b : va_W} (h : va_D A (a ++ b)) : va_D A b := by
  have key : ∀ (k : Nat) (q : Nat × va_E), b[k]? = some q → (a ++ b)[a.length + k]? = some q := fun k q hk => by
    rw [List.getElem?_append_right (Nat.le_add_right _ _), Nat.add_sub_cancel_left]; exact hk
  exact ⟨fun i j x y hi hj hxy => by have := h.1 _ _ x y (key i x hi) (key j y hj) hxy; omega, fun k q hk => h.2 _ q (key k q hk)⟩
theorem g_dneq {A : Nat → Prop} {a b : va_W} (h : va_D A (a ++ b)) {i j : Nat} {x y : Nat × va_E} (hi : a[i]? = some x) (hj : b[j]? = some y) : x.1 ≠ y.1 := fun e => by
  have h1 : i < a.length := (List.getElem?_eq_some_iff.mp hi).1
  have := h.1 i (a.length + j) x y (by rw [List.getElem?_append_left h1]; exact hi) (by rw [List.getElem?_append_right (Nat.le_add_right _ _), Nat.add_sub_cancel_left]; exact hj) e
  omega
theorem g_swapP {D : va_G} {cl : List vw_C} {a b : va_W} {H : Heap} (h : va_P D cl (a ++ b) H) : va_P D cl (b ++ a) H := va_P.app (g_app2 h) (g_app1 h)
theorem g_swapD {A : Nat → Prop} {a b : va_W} (h : va_D A (a ++ b)) : va_D A (b ++ a) := va_D.app (g_dapp2 h) (g_dapp1 h) (fun _ _ _ _ hi hj e => g_dneq h hj hi e.symm)
theorem g_Aapp {a b : va_W} {sz q : Nat} (h : va_A a sz q) : va_A (a ++ b) sz q := by
  rcases h with ⟨k, ex, hk⟩ | h
  · have : k < a.length := (List.getElem?_eq_some_iff.mp hk).1
    exact Or.inl ⟨k, ex, by rw [List.getElem?_append_left this]; exact hk⟩
  · exact Or.inr h
/-- what stays of the further cells -/
theorem g_stay {D : va_G} {A : Nat → Prop} {a b : va_W} {H H1 : Heap} (hP : va_P D vwCl (a ++ b) H) (hD : va_D A (a ++ b)) (hk : ∀ q : Nat, q < H.size → ¬ va_A a H.size q → H1[q]? = H[q]?) : va_P D vwCl b H1 :=
  (g_app2 hP).kept (fun k q hq => hk q.1 ((g_app2 hP) k q hq).lt (fun z => by
    rcases z with ⟨i, ex, hi⟩ | z
    · exact g_dneq hD hi hq rfl
    · exact absurd ((g_app2 hP) k q hq).lt (Nat.not_lt.mpr z)))
theorem g_stayD {A B : Nat → Prop} {D : va_G} {a a1 b : va_W} {H : Heap} (hP : va_P D vwCl (a ++ b) H) (hD : va_D A (a ++ b)) (h1 : va_D (va_A a H.size) a1) (hAB : ∀ q, va_A a H.size q → B q) (hB : ∀ (k : Nat) (q : Nat × va_E), b[k]? = some q → B q.1) : va_D B (a1 ++ b) := by
  refine va_D.app (h1.weaken (fun _ _ _ h => hAB _ h)) ⟨(g_dapp2 hD).1, hB⟩ (fun i j x y hi hj e => ?_)
  have hx := h1.2 i x hi
  rw [e] at hx
  rcases hx with ⟨k, ex, hk⟩ | hx
  · exact g_dneq hD hk hj rfl
  · exact absurd ((g_app2 hP) j y hj).lt (Nat.not_lt.mpr hx)
theorem Mt.frame {l : Launch} {D : va_G} {cA : ClassId} {y : MethodName} {cc : ByteArray} {nL d L : Nat} {ret : Option FieldType} {as : List Value} {ws ws' : va_W} {rv : Option Value} (h : Mt l D cA y cc nL ret d L as ws rv ws') (E : va_W) : Mt l D cA y cc nL ret d L as (ws ++ E) rv (ws' ++ E) := by
  intro sz
  refine MetFree.mono (h sz) (fun a U hU => ?_) (fun _ _ _ _ _ h => h) (fun a st o t hU hQ => ?_)
  · obtain ⟨h1, h2, h3, h4, h5⟩ := hU
    exact ⟨h1, h2, g_app1 h3, h4, g_dapp1 h5⟩
  · obtain ⟨h1, h2, h3, h4, h5⟩ := hU
    subst h2
    obtain ⟨⟨⟨q1, q2, q3, q4⟩, q5⟩, L, hF, hL⟩ := hQ
    refine ⟨⟨⟨q1, va_P.app q2 (g_stay h3 h5 q5.2), q3, g_stayD h3 h5 q4 (fun q hq => g_Aapp hq) (fun k q hq => ?_)⟩, q5.1, fun q g1 g2 => q5.2 q g1 (fun z => g2 (g_Aapp z))⟩, L, hF, fun q hq => g_Aapp (hL q hq)⟩
    exact Or.inl ⟨ws.length + k, q.2, by rw [List.getElem?_append_right (Nat.le_add_right _ _), Nat.add_sub_cancel_left]; exact hq⟩
theorem MtX.frame {l : Launch} {D : va_G} {cA : ClassId} {y : MethodName} {cc : ByteArray} {nL d L : Nat} {ret : Option FieldType} {as : List Value} {ws ws' : va_W} {cls : String} (h : MtX l D cA y cc nL ret d L as ws cls ws') (E : va_W) : MtX l D cA y cc nL ret d L as (ws ++ E) cls (ws' ++ E) := by
  intro sz
  refine MetFree.mono (h sz) (fun a U hU => ?_) (fun _ _ _ _ _ h => h) (fun a st o t hU hQ => ?_)
  · obtain ⟨h1, h2, h3, h4, h5, h6⟩ := hU
    exact ⟨h1, h2, g_app1 h3, h4, g_dapp1 h5, h6.narrow (fun q hq => g_Aapp hq)⟩
  · obtain ⟨h1, h2, h3, h4, h5, h6⟩ := hU
    subst h2
    obtain ⟨x, ce, k, L, e1, e2, e3, e4, e5, e6, e7, ⟨q2, q3, q4⟩, q5, e8, e9, hL⟩ := hQ
    refine ⟨x, ce, k, L, e1, e2, e3, e4, e5, e6, e7, ⟨va_P.app q2 (g_stay h3 h5 q5.2), q3, g_stayD h3 h5 q4 (fun q hq => g_Aapp hq) (fun k q hq => ?_)⟩, ⟨q5.1, fun q g1 g2 => q5.2 q g1 (fun z => g2 (g_Aapp z))⟩, e8, e9, fun q hq => g_Aapp (hL q hq)⟩
    exact Or.inl ⟨ws.length + k, q.2, by rw [List.getElem?_append_right (Nat.le_add_right _ _), Nat.add_sub_cancel_left]; exact hq⟩
