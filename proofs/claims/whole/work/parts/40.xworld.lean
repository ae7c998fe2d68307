/-! what a method that may throw finds beside its world: words that no list of good words carries, the texts, Throwable's two statics -/
abbrev eIA : String := "java/lang/IllegalArgumentException"
abbrev eIS : String := "java/lang/IllegalStateException"
abbrev eIO : String := "java/lang/IndexOutOfBoundsException"
abbrev eUp : List String := ["java/lang/RuntimeException", "java/lang/Exception"]
def iS (c : String) : MethodName := ⟨c, "<init>", "(Ljava/lang/String;)V"⟩
def ngW : List Cond := [.castable eIA eIA, .castable eIS eIS, .castable eIO eIO, .declares (iS "java/lang/RuntimeException"), .declares (iS "java/lang/Exception"), .declares (iS "java/lang/Throwable")]
def xN (U : State) : Prop := ∀ w ∈ ngW, va_Nw w U
def strs : List (Nat × String) := [(57, "a number of a line is not -6 .. 6"), (62, "a and b are both 0"), (66, "there are 6 lines"), (74, "no such line"), (80, "no such cut"), (85, "a part is 0 or 1"), (95, "no such strip"), (104, "no such cell"), (109, "what is 0, 1 or 2"), (111, "a letter is 0 or 1"), (124, "a number of a point is not -100 .. 100"), (126, "q or s is below 1")]
def sN (U : State) : Prop := ∀ q ∈ strs, ∃ sa, vk_R RC q.1 q.2 sa U
theorem xN.warm {s U : State} (hW : s.WarmedH U.vm) (h : xN s) : xN U := by
  intro w hw
  have h0 := h w hw
  simp only [ngW, List.mem_cons, List.not_mem_nil, or_false] at hw
  rcases hw with rfl | rfl | rfl | rfl | rfl | rfl
  · exact va_Nw.warmC hW h0
  · exact va_Nw.warmC hW h0
  · exact va_Nw.warmC hW h0
  · exact va_Nw.warmD hW h0
  · exact va_Nw.warmD hW h0
  · exact va_Nw.warmD hW h0
theorem ng_ot : ∀ w ∈ ngW, w.onTables = true := by decide +kernel
theorem xN.same {u U : State} (h : u.vm = U.vm) (hx : xN u) : xN U := fun w hw => va_Nw.same (ng_ot w hw) h (hx w hw)
theorem xN.use {A : Array Value} {U : State} (h : xN U) {w : Cond} (hw : w ∈ ngW) : w.before A U = true := va_Nw.use (ng_ot w hw) (h w hw)
theorem sN.warm {s U : State} (hW : s.WarmedH U.vm) (h : sN s) : sN U := fun q hq => by
  obtain ⟨sa, h1⟩ := h q hq
  exact ⟨sa, vk_R.warm hW h1⟩
theorem sN.same {u U : State} (hv : U.vm = u.vm) (h : sN u) : sN U := fun q hq => by
  obtain ⟨sa, h1⟩ := h q hq
  exact ⟨sa, vk_R.same hv h1⟩
/-- Throwable's two statics lie outside A -/
def zN (A : Nat → Prop) (U : State) (H : Heap) : Prop := vx_Zq Bundle.tN "UNASSIGNED_STACK" Bundle.steD A U H ∧ vx_Zq Bundle.tN "SUPPRESSED_SENTINEL" Bundle.listD A U H
theorem zN.to {A B : Nat → Prop} {s U : State} {H : Heap} {H1 : Heap} (h : zN A s H) (hk : ∀ a : Nat, a < H.size → ¬ A a → H1[a]? = H[a]?) (hAB : ∀ q, B q → A q) (hvm : s.vm.Alike U.vm) : zN B U H1 :=
  ⟨((h.1.kept hk).narrow hAB).moved hvm, ((h.2.kept hk).narrow hAB).moved hvm⟩
def pRx (D : va_G) (ws : va_W) (tys : List (ClassId × FieldType)) (sz : Nat) (U : State) : Prop := pRw D ws tys sz U ∧ xN U ∧ sN U ∧ zN (va_A ws sz) U U.heap
theorem pRx_bl {D : va_G} {ws : va_W} {tys : List (ClassId × FieldType)} {sz : Nat} {av : List Value} : FrameBlind (va_Pc av (pRx D ws tys sz)) := fun a U g mk q => by
  obtain ⟨q0, q1, q2, q3, q4⟩ := q
  exact ⟨q0, (pRw_bl (av := av) a U g mk ⟨q0, q1⟩).2, xN.same (u := U) (U := U.calling g mk a) rfl q2, sN.same (u := U) (U := U.calling g mk a) rfl q3, q4.to (U := U.calling g mk a) (fun _ _ _ => rfl) (fun _ h => h) (Vm.Alike.refl U.vm)⟩
theorem pRx_at {D : va_G} {ws : va_W} {tys : List (ClassId × FieldType)} {A : Nat → Prop} {s U : State} {H : Heap} {locs : List Loc} (hP : va_P D vwCl ws H) (hK : va_K D vwCl tys s) (hN : va_Nw nestW s) (hD : va_D A ws) (hX : xN s) (hT : sN s) (hZ : zN A s s.heap) (hS : va_S A s.heap H locs) (hF : ∀ q, va_A ws H.size q → A q) (hU : U.heap = H) (hW : s.WarmedH U.vm) : pRx D ws tys H.size U :=
  ⟨pRw_at hP hK hN hD hU hW, hX.warm hW, hT.warm hW, by rw [hU]; exact hZ.to hS.2.1 hF hW.alike⟩
theorem x_IA : ∀ w ∈ vx_atS RC 59 eIA eUp, w ∈ cw ∨ w ∈ ngW := by decide +kernel
theorem x_IS : ∀ w ∈ vx_atS RC 68 eIS eUp, w ∈ cw ∨ w ∈ ngW := by decide +kernel
theorem x_IO : ∀ w ∈ vx_atS RC 76 eIO eUp, w ∈ cw ∨ w ∈ ngW := by decide +kernel
theorem o_IA : ∀ w ∈ Cond.classLink RC 55 eIA :: Cond.initialized eIA :: vx_atS RC 59 eIA eUp, vx_ot w = true := by decide +kernel
theorem o_IS : ∀ w ∈ Cond.classLink RC 64 eIS :: Cond.initialized eIS :: vx_atS RC 68 eIS eUp, vx_ot w = true := by decide +kernel
theorem o_IO : ∀ w ∈ Cond.classLink RC 72 eIO :: Cond.initialized eIO :: vx_atS RC 76 eIO eUp, vx_ot w = true := by decide +kernel
theorem f_up : ∀ n ∈ eUp, Bundle.fit n = true := by decide +kernel
theorem xF {A : Nat → Prop} {s t : State} {H : Heap} {locs : List Loc} (hS : va_S A s.heap H locs) (hz : H.size ≤ t.heap.size) (hk : ∀ q : Nat, q < H.size → t.heap[q]? = H[q]?) : va_F A s t :=
  ⟨Nat.le_trans hS.1 hz, fun q h1 h2 => (hk q (Nat.lt_of_lt_of_le h1 hS.1)).trans (hS.2.1 q h1 h2)⟩
