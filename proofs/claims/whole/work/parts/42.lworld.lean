/-! the law's small methods: the class's world, and the law's row of one long -/
abbrev QS : Type := CS × (Nat → Int64)
def QS.x (s : QS) : CS := s.1
def QS.o (s : QS) : Nat → Int64 := s.2
def QS.set_x (s : QS) (v : CS) : QS := (v, s.2)
def QS.set_o (s : QS) (v : Nat → Int64) : QS := (s.1, v)
def WL (h : Nat → Nat) (k : Nat → ClassId) (s : QS) : va_W := [(h 45, .inl (k 45, 1, .inr (.inl (QS.o s))))] ++ WC h k (QS.x s)
abbrev YL (k : Nat → ClassId) : List (ClassId × FieldType) := (k 45, .long) :: YC k
def pRl (D : va_G) (ws : va_W) (tys : List (ClassId × FieldType)) (sz : Nat) (U : State) : Prop := pRx D ws tys sz U ∧ va_Nc eIS eIA U ∧ va_Nc eIA eIO U
theorem pRl_bl {D : va_G} {ws : va_W} {tys : List (ClassId × FieldType)} {sz : Nat} {av : List Value} : FrameBlind (va_Pc av (pRl D ws tys sz)) := fun a U g mk q => by
  obtain ⟨q0, q1, q2, q3⟩ := q
  exact ⟨q0, (pRx_bl (av := av) a U g mk ⟨q0, q1⟩).2, va_Nc.moved (u := U) (U := U.calling g mk a) (Vm.Alike.refl U.vm) q2, va_Nc.moved (u := U) (U := U.calling g mk a) (Vm.Alike.refl U.vm) q3⟩
theorem va_P_r {D : va_G} {cl : List vw_C} {a b : va_W} {H : Heap} (h : va_P D cl (a ++ b) H) : va_P D cl b H := fun i q hq => h (a.length + i) q (by rw [List.getElem?_append_right (by omega), Nat.add_sub_cancel_left]; exact hq)
theorem va_P_l {D : va_G} {cl : List vw_C} {a b : va_W} {H : Heap} (h : va_P D cl (a ++ b) H) : va_P D cl a H := fun i q hq => h i q (by rw [List.getElem?_append_left (List.getElem?_eq_some_iff.mp hq).1]; exact hq)
theorem va_D_r {A : Nat → Prop} {a b : va_W} (h : va_D A (a ++ b)) : va_D A b := by
  have key : ∀ (i : Nat) (q : Nat × va_E), b[i]? = some q → (a ++ b)[a.length + i]? = some q := fun i q hq => by rw [List.getElem?_append_right (by omega), Nat.add_sub_cancel_left]; exact hq
  exact ⟨fun i j x y hx hy e => by have := h.1 _ _ x y (key i x hx) (key j y hy) e; omega, fun i q hq => h.2 _ q (key i q hq)⟩
theorem va_D_l {A : Nat → Prop} {a b : va_W} (h : va_D A (a ++ b)) : va_D A a := by
  have key : ∀ (i : Nat) (q : Nat × va_E), a[i]? = some q → (a ++ b)[i]? = some q := fun i q hq => by rw [List.getElem?_append_left (List.getElem?_eq_some_iff.mp hq).1]; exact hq
  exact ⟨fun i j x y hx hy e => h.1 _ _ x y (key i x hx) (key j y hy) e, fun i q hq => h.2 _ q (key i q hq)⟩
theorem va_swapT {D : va_G} {cl : List vw_C} {A0 : Nat → Prop} {pre wc w1 : va_W} {H H1 : Heap} (hP : va_P D cl (pre ++ wc) H) (hD : va_D A0 (pre ++ wc)) (hk : ∀ q : Nat, q < H.size → ¬ va_A wc H.size q → H1[q]? = H[q]?) (hP1 : va_P D cl w1 H1) (ha : w1.map (·.1) = wc.map (·.1)) : va_P D cl (pre ++ w1) H1 ∧ va_D A0 (pre ++ w1) := by
  have h := va_swap (post := []) (by rw [List.append_nil]; exact hP) (by rw [List.append_nil]; exact hD) hk hP1 ha
  rw [List.append_nil] at h
  exact h
theorem wc_addr (h : Nat → Nat) (k : Nat → ClassId) (s u : CS) : (WC h k u).map (·.1) = (WC h k s).map (·.1) := rfl
