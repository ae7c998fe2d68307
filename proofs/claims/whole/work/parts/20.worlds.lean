/-! the worlds: what the cells of a Marks, of the class, of the reference hold -/
abbrev KS : Type := Int32 × (Nat → Int64) × (Nat → Int64)
def KS.cnt (s : KS) : Int32 := s.1
def KS.up (s : KS) : Nat → Int64 := s.2.1
def KS.dn (s : KS) : Nat → Int64 := s.2.2
def KS.set_cnt (s : KS) (v : Int32) : KS := (v, s.2.1, s.2.2)
def KS.set_up (s : KS) (v : Nat → Int64) : KS := (s.1, v, s.2.2)
def KS.set_dn (s : KS) (v : Nat → Int64) : KS := (s.1, s.2.1, v)
/-- a Marks at h 0, its rows at h 1, h 2 -/
def WK (h : Nat → Nat) (k : Nat → ClassId) (s : KS) : va_W := [(h 0, .inr (0, [.ref (h 1), .ref (h 2), .int (KS.cnt s)])), (h 1, .inl (k 1, 15, .inr (.inl (KS.up s)))), (h 2, .inl (k 2, 15, .inr (.inl (KS.dn s))))]
abbrev YK (k : Nat → ClassId) : List (ClassId × FieldType) := [(k 1, .long), (k 2, .long)]
/-- the one word that no list of good words carries -/
abbrev nestW : Cond := .fieldLinkNest RC 77 RK "count" "I" RC
/-- what a method that writes nothing finds -/
def pRo (D : va_G) (ws : va_W) (tys : List (ClassId × FieldType)) (U : State) : Prop := va_P D vwCl ws U.heap ∧ va_K D vwCl tys U ∧ va_Nw nestW U
/-- what a method that writes finds -/
def pRw (D : va_G) (ws : va_W) (tys : List (ClassId × FieldType)) (sz : Nat) (U : State) : Prop := U.heap.size = sz ∧ va_P D vwCl ws U.heap ∧ va_K D vwCl tys U ∧ va_Nw nestW U ∧ va_D (fun _ => True) ws
theorem pRo_bl {D : va_G} {ws : va_W} {tys : List (ClassId × FieldType)} {av : List Value} : FrameBlind (va_Pc av (pRo D ws tys)) := fun a U g mk q => by
  obtain ⟨q0, q1, q2, q3⟩ := q
  exact ⟨q0, q1, va_K.moved (u := U) (U := U.calling g mk a) (Vm.Alike.refl U.vm) q2, va_Nw.same rfl rfl q3⟩
theorem pRw_bl {D : va_G} {ws : va_W} {tys : List (ClassId × FieldType)} {sz : Nat} {av : List Value} : FrameBlind (va_Pc av (pRw D ws tys sz)) := fun a U g mk q => by
  obtain ⟨q0, q4, q1, q2, q3, q5⟩ := q
  exact ⟨q0, q4, q1, va_K.moved (u := U) (U := U.calling g mk a) (Vm.Alike.refl U.vm) q2, va_Nw.same rfl rfl q3, q5⟩
theorem pRo_at {D : va_G} {ws : va_W} {tys : List (ClassId × FieldType)} {s U : State} {H : Heap} (hP : va_P D vwCl ws H) (hK : va_K D vwCl tys s) (hN : va_Nw nestW s) (hU : U.heap = H) (hW : s.WarmedH U.vm) : pRo D ws tys U := ⟨by rw [hU]; exact hP, va_K.moved hW.alike hK, va_Nw.warmF hW hN⟩
theorem pRw_at {D : va_G} {ws : va_W} {tys : List (ClassId × FieldType)} {A : Nat → Prop} {s U : State} {H : Heap} (hP : va_P D vwCl ws H) (hK : va_K D vwCl tys s) (hN : va_Nw nestW s) (hD : va_D A ws) (hU : U.heap = H) (hW : s.WarmedH U.vm) : pRw D ws tys H.size U := ⟨by rw [hU], by rw [hU]; exact hP, va_K.moved hW.alike hK, va_Nw.warmF hW hN, hD.weaken (fun _ _ _ _ => trivial)⟩
theorem pSt_bl {av : List Value} : FrameBlind (va_Pc av (fun _ => True)) := fun _ _ _ _ q => q
/-- what holds all through a body -/
def cxt (p : Program) (s : State) (m : MethodId) (args : Array Value) (meth : Method) (c : Code) (cc : ByteArray) (nL : Nat) (own : String) (ret : Option FieldType) : Prop := p.tables.exec = Jvm.exec ∧ c.code = cc ∧ meth.sig.returnType = ret ∧ c.maxLocals = nL ∧ s.vm.findClass own = some m.cls ∧ (∀ w ∈ cw, w.before args s = true) ∧ meth.locks = false
theorem gV {own C : String} {idx : Nat} {y : MethodName} {ws : List Cond} (h1 : Cond.methodLink own idx y ∈ cw) (h2 : Cond.instanceMethod y ∈ cw) (h3 : Cond.selects C y y ∈ cw) (h4 : Cond.initialized C ∈ cw) (h : GoodIn cw ws) : GoodIn cw (wsV own idx C y ws) := by
  intro w hw
  rcases List.mem_append.mp hw with q | q
  · rcases List.mem_cons.mp q with rfl | q
    · exact ⟨h1, cw_good _ h1⟩
    · rcases List.mem_cons.mp q with rfl | q
      · exact ⟨h2, cw_good _ h2⟩
      · rcases List.mem_cons.mp q with rfl | q
        · exact ⟨h3, cw_good _ h3⟩
        · rcases List.mem_singleton.mp q with rfl
          exact ⟨h4, cw_good _ h4⟩
  · exact h w q
theorem gS {own : String} {idx : Nat} {y : MethodName} {ws : List Cond} (h1 : Cond.methodLink own idx y ∈ cw) (h2 : Cond.static y ∈ cw) (h4 : Cond.initialized y.cls ∈ cw) (h : GoodIn cw ws) : GoodIn cw (va_wsS own idx y ws) := by
  intro w hw
  rcases List.mem_append.mp hw with q | q
  · rcases List.mem_cons.mp q with rfl | q
    · exact ⟨h1, cw_good _ h1⟩
    · rcases List.mem_cons.mp q with rfl | q
      · exact ⟨h2, cw_good _ h2⟩
      · rcases List.mem_singleton.mp q with rfl
        exact ⟨h4, cw_good _ h4⟩
  · exact h w q
/-! what lcmp's answer says -/
theorem lgc_eq {x y : Int64} : lg_cmp x y = 0 ↔ x = y := by
  unfold lg_cmp
  by_cases h1 : y < x
  · simp [h1]; intro h; rw [h] at h1; exact absurd h1 (by simp)
  · by_cases h2 : x = y <;> simp [h1, h2]
theorem lgc_gt {x y : Int64} : 0 < lg_cmp x y ↔ y < x := by
  unfold lg_cmp
  by_cases h1 : y < x
  · simp [h1]
  · by_cases h2 : x = y <;> simp [h1, h2]
theorem lgc_le {x y : Int64} : lg_cmp x y ≤ 0 ↔ x ≤ y := by
  have h := @lgc_gt x y
  rw [Int32.le_iff_toInt_le, Int64.le_iff_toInt_le]
  rw [Int32.lt_iff_toInt_lt, Int64.lt_iff_toInt_lt] at h
  omega
theorem lgc_lt {x y : Int64} : lg_cmp x y < 0 ↔ x < y := by
  have h := @lgc_gt x y
  have h2 := @lgc_eq x y
  rw [← Int32.toInt_inj, ← Int64.toInt_inj] at h2
  rw [Int32.lt_iff_toInt_lt, Int64.lt_iff_toInt_lt] at h ⊢
  simp only [Int32.toInt_zero] at *
  omega
theorem lgc_ge {x y : Int64} : 0 ≤ lg_cmp x y ↔ y ≤ x := by
  have h := @lgc_lt x y
  rw [Int32.le_iff_toInt_le, Int64.le_iff_toInt_le]
  rw [Int32.lt_iff_toInt_lt, Int64.lt_iff_toInt_lt] at h
  omega
