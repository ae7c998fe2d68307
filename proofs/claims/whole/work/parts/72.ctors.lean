/-! the constructors of a Marks and of the reference -/
set_option maxHeartbeats 4000000 in
set_option maxRecDepth 100000 in
theorem t_K_init (l : Launch) (dC : Nat → ClassId) (dI : Nat → Nat → Nat) (h0 : Nat) (sz : Nat) : Met l y_K_init (Cond.code y_K_init prog_2_method_1_code 1 none :: cw) ({ frames := 1, cells := 2, slots := 30, locals := 12 } : Room) (va_Pc [.ref h0] (pRw (dC, dI) [(h0, .inr (0, [.null, .null, .int 0]))] [] sz)) (va_Qv (fun _ : Unit => True) (fun _ t => ∃ (q1 q2 : Nat) (k1 k2 : ClassId), va_P (dC, dI) vwCl [(h0, .inr (0, [.ref q1, .ref q2, .int 0])), (q1, .inl (k1, 15, .inr (.inl (fun _ => 0)))), (q2, .inl (k2, 15, .inr (.inl (fun _ => 0))))] t.heap ∧ va_K (dC, dI) vwCl [(k1, .long), (k2, .long)] t ∧ va_D (va_A [(h0, .inr (0, [.null, .null, .int 0]))] sz) [(h0, .inr (0, [.ref q1, .ref q2, .int 0])), (q1, .inl (k1, 15, .inr (.inl (fun _ => 0)))), (q2, .inl (k2, 15, .inr (.inl (fun _ => 0))))]) (va_A [(h0, .inr (0, [.null, .null, .int 0]))] sz)) 2 30 (va_A [(h0, .inr (0, [.null, .null, .int 0]))] sz) := by
  refine Met.ofW (cc := prog_2_method_1_code) (maxL := 1) (ret := none) (by decide) rfl ?_
  intro p e s m args below meth c s₁ B hml hv
  obtain ⟨rfl, hsz, hP, hK, hN, hD0⟩ := hv
  have hx := B.exec
  have hb := B.bytes
  have hr := B.returns
  have hts : ∀ w ∈ cw, w.before _ s = true := fun w h => atoms_spec (ws := (Cond.code y_K_init prog_2_method_1_code 1 none :: cw)) B.pre w (List.mem_cons_of_mem _ h)
  have hown : s.vm.findClass RK = some m.cls := findClass_of_methodNamed B.named
  have hlocks := B.notSynchronized
  have hin : meth.name = "<init>" := (name_of_methodNamed B.named B.method).1
  subst hsz
  have hD := hD0.self (sz := s.heap.size)
  generalize hAe : va_A [(h0, .inr (0, [.null, .null, .int 0]))] s.heap.size = A at hD ⊢
  have hA : ∀ q : Nat, s.heap.size ≤ q → A q := fun q h => by rw [← hAe]; exact Or.inr h
  have hS : va_S A s.heap s.heap [] := va_S.rf
  have hl := lv_entry ([.ref h0]) (n := 1) (Nat.le_of_ble_eq_true rfl)
  rw [lg_entry_eq]
  generalize (lg_sl ([.ref h0]) ++ List.replicate (1 - (lg_sl ([.ref h0])).length) Slot.unset).toArray = ls at hl ⊢
  have hl : lv_has ls 1 [(0, .ref h0)] := hl
  refine lv_aload_n hx hb d_K_init_0 rfl (lv_at hl 0 rfl) ?_
  refine W.objInit hx hb hown (hts _ m_25) (hts _ m_18) (hts _ m_19) rfl (by rw [hml]; exact hl.1) rfl d_K_init_1 (Nat.le_of_ble_eq_true rfl) (Nat.le_of_ble_eq_true rfl) ?_
  refine W.eq (g2 := F0 m 4 ls []) rfl ?_
  refine lv_aload_n hx hb d_K_init_4 rfl (lv_at hl 0 rfl) ?_
  refine lv_bipush (v := 15) hx hb d_K_init_5 (by decide) ?_
  refine va_newa (atype := .long) (ty := .long) (N' := 15) (a0 := (15, .inr (.inl (fun _ => 0)))) hx hb (hts _ m_38) rfl hK hP hD hS hA (fun _ => rfl) (by decide) (by decide) (by decide) (Nat.le_of_ble_eq_true rfl) (Nat.le_of_ble_eq_true rfl) d_K_init_7 (fun q1 k1 H hK hP hD hS => ?_)
  have hP : va_P (dC, dI) vwCl [(h0, .inr (0, [.null, .null, .int 0])), (q1, .inl (k1, 15, .inr (.inl (fun _ => 0))))] H := hP
  have hD : va_D A [(h0, .inr (0, [.null, .null, .int 0])), (q1, .inl (k1, 15, .inr (.inl (fun _ => 0))))] := hD
  have hK : va_K (dC, dI) vwCl [(k1, .long)] s := hK
  refine W.widen (k := 1) (n := 15) (by omega) (by omega) ?_
  refine va_putF (D := (dC, dI)) (ci := 0) (v := .ref q1) (ty := .array .long) (C := RK) (T := TK) (N := 3) hx hb hts i_K tyK tyK_ok nmK hown hK hP hD hS 0 rfl rfl 0 (by decide) (hts _ m_26) (fun _ h9 => h9) rfl hin rfl (by decide +kernel) rfl rfl (Nat.le_of_ble_eq_true rfl) d_K_init_9 (fun H locs hP hD hS => ?_)
  have hP : va_P (dC, dI) vwCl [(h0, .inr (0, [.ref q1, .null, .int 0])), (q1, .inl (k1, 15, .inr (.inl (fun _ => 0))))] H := hP
  have hD : va_D A [(h0, .inr (0, [.ref q1, .null, .int 0])), (q1, .inl (k1, 15, .inr (.inl (fun _ => 0))))] := hD
  refine lv_aload_n hx hb d_K_init_12 rfl (lv_at hl 0 rfl) ?_
  refine lv_bipush (v := 15) hx hb d_K_init_13 (by decide) ?_
  refine va_newa (atype := .long) (ty := .long) (N' := 15) (a0 := (15, .inr (.inl (fun _ => 0)))) hx hb (hts _ m_38) rfl hK hP hD hS hA (fun _ => rfl) (by decide) (by decide) (by decide) (Nat.le_of_ble_eq_true rfl) (Nat.le_of_ble_eq_true rfl) d_K_init_15 (fun q2 k2 H hK hP hD hS => ?_)
  have hP : va_P (dC, dI) vwCl [(h0, .inr (0, [.ref q1, .null, .int 0])), (q1, .inl (k1, 15, .inr (.inl (fun _ => 0)))), (q2, .inl (k2, 15, .inr (.inl (fun _ => 0))))] H := hP
  have hD : va_D A [(h0, .inr (0, [.ref q1, .null, .int 0])), (q1, .inl (k1, 15, .inr (.inl (fun _ => 0)))), (q2, .inl (k2, 15, .inr (.inl (fun _ => 0))))] := hD
  have hK : va_K (dC, dI) vwCl [(k1, .long), (k2, .long)] s := hK
  refine W.widen (k := 2) (n := 30) (by omega) (by omega) ?_
  refine va_putF (D := (dC, dI)) (ci := 0) (v := .ref q2) (ty := .array .long) (C := RK) (T := TK) (N := 3) hx hb hts i_K tyK tyK_ok nmK hown hK hP hD hS 0 rfl rfl 1 (by decide) (hts _ m_27) (fun _ h9 => h9) rfl hin rfl (by decide +kernel) rfl rfl (Nat.le_of_ble_eq_true rfl) d_K_init_17 (fun H locs hP hD hS => ?_)
  have hP : va_P (dC, dI) vwCl [(h0, .inr (0, [.ref q1, .ref q2, .int 0])), (q1, .inl (k1, 15, .inr (.inl (fun _ => 0)))), (q2, .inl (k2, 15, .inr (.inl (fun _ => 0))))] H := hP
  have hD : va_D A [(h0, .inr (0, [.ref q1, .ref q2, .int 0])), (q1, .inl (k1, 15, .inr (.inl (fun _ => 0)))), (q2, .inl (k2, 15, .inr (.inl (fun _ => 0))))] := hD
  refine lv_aload_n hx hb d_K_init_20 rfl (lv_at hl 0 rfl) ?_
  refine lv_iconst (v := 0) hx hb d_K_init_21 (by decide) ?_
  refine va_put (D := (dC, dI)) (ci := 0) (v := .int 0) (ty := .int) (C := RK) (T := TK) (N := 3) hx hb hts i_K tyK tyK_ok nmK hown hK hP hD hS 0 rfl rfl 2 (by decide) (hts _ m_28) (fun _ h9 => h9) rfl (by decide +kernel) rfl rfl (Nat.le_of_ble_eq_true rfl) d_K_init_22 (fun H locs hP hD hS => ?_)
  have hP : va_P (dC, dI) vwCl [(h0, .inr (0, [.ref q1, .ref q2, .int 0])), (q1, .inl (k1, 15, .inr (.inl (fun _ => 0)))), (q2, .inl (k2, 15, .inr (.inl (fun _ => 0))))] H := hP
  have hD : va_D A [(h0, .inr (0, [.ref q1, .ref q2, .int 0])), (q1, .inl (k1, 15, .inr (.inl (fun _ => 0)))), (q2, .inl (k2, 15, .inr (.inl (fun _ => 0))))] := hD
  exact W.vret hx hb hr (fun t ht hW => ⟨⟨(), rfl, trivial, q1, q2, k1, k2, by rw [ht]; exact hP, va_K.moved hW.alike hK, hD⟩, hS.F ht⟩) hS.2.2 d_K_init_25
set_option maxHeartbeats 4000000 in
set_option maxRecDepth 100000 in
theorem t_M_init (l : Launch) (dC : Nat → ClassId) (dI : Nat → Nat → Nat) (h0 : Nat) (sz : Nat) : Met l y_M_init (Cond.code y_M_init prog_4_method_1_code 1 none :: cw) ({ frames := 1, cells := 5, slots := 78, locals := 12 } : Room) (va_Pc [.ref h0] (pRw (dC, dI) [(h0, .inr (2, [.int 0, .int 0, .null, .int 0, .null, .null, .int 0, .null, .null, .long 0, .long 0, .long 0, .long 0, .int 0, .int 0]))] [] sz)) (va_Qv (fun _ : Unit => True) (fun _ t => ∃ (q1 q2 q3 q4 q5 : Nat) (k1 k2 k3 k4 k5 : ClassId), va_P (dC, dI) vwCl [(h0, .inr (2, [.int 0, .int 0, .ref q1, .int 0, .ref q2, .ref q3, .int 0, .ref q4, .ref q5, .long 0, .long 0, .long 0, .long 0, .int 0, .int 0])), (q1, .inl (k1, 18, .inl (fun _ => 0))), (q2, .inl (k2, 24, .inr (.inl (fun _ => 0)))), (q3, .inl (k3, 24, .inr (.inl (fun _ => 0)))), (q4, .inl (k4, 6, .inr (.inl (fun _ => 0)))), (q5, .inl (k5, 6, .inr (.inl (fun _ => 0))))] t.heap ∧ va_K (dC, dI) vwCl [(k1, .int), (k2, .long), (k3, .long), (k4, .long), (k5, .long)] t ∧ va_D (va_A [(h0, .inr (2, [.int 0, .int 0, .null, .int 0, .null, .null, .int 0, .null, .null, .long 0, .long 0, .long 0, .long 0, .int 0, .int 0]))] sz) [(h0, .inr (2, [.int 0, .int 0, .ref q1, .int 0, .ref q2, .ref q3, .int 0, .ref q4, .ref q5, .long 0, .long 0, .long 0, .long 0, .int 0, .int 0])), (q1, .inl (k1, 18, .inl (fun _ => 0))), (q2, .inl (k2, 24, .inr (.inl (fun _ => 0)))), (q3, .inl (k3, 24, .inr (.inl (fun _ => 0)))), (q4, .inl (k4, 6, .inr (.inl (fun _ => 0)))), (q5, .inl (k5, 6, .inr (.inl (fun _ => 0))))]) (va_A [(h0, .inr (2, [.int 0, .int 0, .null, .int 0, .null, .null, .int 0, .null, .null, .long 0, .long 0, .long 0, .long 0, .int 0, .int 0]))] sz)) 5 78 (va_A [(h0, .inr (2, [.int 0, .int 0, .null, .int 0, .null, .null, .int 0, .null, .null, .long 0, .long 0, .long 0, .long 0, .int 0, .int 0]))] sz) := by
  refine Met.ofW (cc := prog_4_method_1_code) (maxL := 1) (ret := none) (by decide) rfl ?_
  intro p e s m args below meth c s₁ B hml hv
  obtain ⟨rfl, hsz, hP, hK, hN, hD0⟩ := hv
  have hx := B.exec
  have hb := B.bytes
  have hr := B.returns
  have hts : ∀ w ∈ cw, w.before _ s = true := fun w h => atoms_spec (ws := (Cond.code y_M_init prog_4_method_1_code 1 none :: cw)) B.pre w (List.mem_cons_of_mem _ h)
  have hown : s.vm.findClass RM = some m.cls := findClass_of_methodNamed B.named
  have hlocks := B.notSynchronized
  have hin : meth.name = "<init>" := (name_of_methodNamed B.named B.method).1
  subst hsz
  have hD := hD0.self (sz := s.heap.size)
  generalize hAe : va_A [(h0, .inr (2, [.int 0, .int 0, .null, .int 0, .null, .null, .int 0, .null, .null, .long 0, .long 0, .long 0, .long 0, .int 0, .int 0]))] s.heap.size = A at hD ⊢
  have hA : ∀ q : Nat, s.heap.size ≤ q → A q := fun q h => by rw [← hAe]; exact Or.inr h
  have hS : va_S A s.heap s.heap [] := va_S.rf
  have hl := lv_entry ([.ref h0]) (n := 1) (Nat.le_of_ble_eq_true rfl)
  rw [lg_entry_eq]
  generalize (lg_sl ([.ref h0]) ++ List.replicate (1 - (lg_sl ([.ref h0])).length) Slot.unset).toArray = ls at hl ⊢
  have hl : lv_has ls 1 [(0, .ref h0)] := hl
  refine lv_aload_n hx hb d_M_init_0 rfl (lv_at hl 0 rfl) ?_
  refine W.objInit hx hb hown (hts _ m_375) (hts _ m_18) (hts _ m_19) rfl (by rw [hml]; exact hl.1) rfl d_M_init_1 (Nat.le_of_ble_eq_true rfl) (Nat.le_of_ble_eq_true rfl) ?_
  refine W.eq (g2 := F0 m 4 ls []) rfl ?_
  refine lv_aload_n hx hb d_M_init_4 rfl (lv_at hl 0 rfl) ?_
  refine lv_bipush (v := 18) hx hb d_M_init_5 (by decide) ?_
  refine va_newa (atype := .int) (ty := .int) (N' := 18) (a0 := (18, .inl (fun _ => 0))) hx hb (hts _ m_37) rfl hK hP hD hS hA (fun _ => rfl) (by decide) (by decide) (by decide) (Nat.le_of_ble_eq_true rfl) (Nat.le_of_ble_eq_true rfl) d_M_init_7 (fun q1 k1 H hK hP hD hS => ?_)
  have hP : va_P (dC, dI) vwCl [(h0, .inr (2, [.int 0, .int 0, .null, .int 0, .null, .null, .int 0, .null, .null, .long 0, .long 0, .long 0, .long 0, .int 0, .int 0])), (q1, .inl (k1, 18, .inl (fun _ => 0)))] H := hP
  have hD : va_D A [(h0, .inr (2, [.int 0, .int 0, .null, .int 0, .null, .null, .int 0, .null, .null, .long 0, .long 0, .long 0, .long 0, .int 0, .int 0])), (q1, .inl (k1, 18, .inl (fun _ => 0)))] := hD
  have hK : va_K (dC, dI) vwCl [(k1, .int)] s := hK
  refine W.widen (k := 1) (n := 18) (by omega) (by omega) ?_
  refine va_putF (D := (dC, dI)) (ci := 2) (v := .ref q1) (ty := .array .int) (C := RM) (T := TM) (N := 15) hx hb hts i_M tyM tyM_ok nmM hown hK hP hD hS 0 rfl rfl 2 (by decide) (hts _ m_378) (fun _ h9 => h9) rfl hin rfl (by decide +kernel) rfl rfl (Nat.le_of_ble_eq_true rfl) d_M_init_9 (fun H locs hP hD hS => ?_)
  have hP : va_P (dC, dI) vwCl [(h0, .inr (2, [.int 0, .int 0, .ref q1, .int 0, .null, .null, .int 0, .null, .null, .long 0, .long 0, .long 0, .long 0, .int 0, .int 0])), (q1, .inl (k1, 18, .inl (fun _ => 0)))] H := hP
  have hD : va_D A [(h0, .inr (2, [.int 0, .int 0, .ref q1, .int 0, .null, .null, .int 0, .null, .null, .long 0, .long 0, .long 0, .long 0, .int 0, .int 0])), (q1, .inl (k1, 18, .inl (fun _ => 0)))] := hD
  refine lv_aload_n hx hb d_M_init_12 rfl (lv_at hl 0 rfl) ?_
  refine lv_bipush (v := 24) hx hb d_M_init_13 (by decide) ?_
  refine va_newa (atype := .long) (ty := .long) (N' := 24) (a0 := (24, .inr (.inl (fun _ => 0)))) hx hb (hts _ m_38) rfl hK hP hD hS hA (fun _ => rfl) (by decide) (by decide) (by decide) (Nat.le_of_ble_eq_true rfl) (Nat.le_of_ble_eq_true rfl) d_M_init_15 (fun q2 k2 H hK hP hD hS => ?_)
  have hP : va_P (dC, dI) vwCl [(h0, .inr (2, [.int 0, .int 0, .ref q1, .int 0, .null, .null, .int 0, .null, .null, .long 0, .long 0, .long 0, .long 0, .int 0, .int 0])), (q1, .inl (k1, 18, .inl (fun _ => 0))), (q2, .inl (k2, 24, .inr (.inl (fun _ => 0))))] H := hP
  have hD : va_D A [(h0, .inr (2, [.int 0, .int 0, .ref q1, .int 0, .null, .null, .int 0, .null, .null, .long 0, .long 0, .long 0, .long 0, .int 0, .int 0])), (q1, .inl (k1, 18, .inl (fun _ => 0))), (q2, .inl (k2, 24, .inr (.inl (fun _ => 0))))] := hD
  have hK : va_K (dC, dI) vwCl [(k1, .int), (k2, .long)] s := hK
  refine W.widen (k := 2) (n := 42) (by omega) (by omega) ?_
  refine va_putF (D := (dC, dI)) (ci := 2) (v := .ref q2) (ty := .array .long) (C := RM) (T := TM) (N := 15) hx hb hts i_M tyM tyM_ok nmM hown hK hP hD hS 0 rfl rfl 4 (by decide) (hts _ m_380) (fun _ h9 => h9) rfl hin rfl (by decide +kernel) rfl rfl (Nat.le_of_ble_eq_true rfl) d_M_init_17 (fun H locs hP hD hS => ?_)
  have hP : va_P (dC, dI) vwCl [(h0, .inr (2, [.int 0, .int 0, .ref q1, .int 0, .ref q2, .null, .int 0, .null, .null, .long 0, .long 0, .long 0, .long 0, .int 0, .int 0])), (q1, .inl (k1, 18, .inl (fun _ => 0))), (q2, .inl (k2, 24, .inr (.inl (fun _ => 0))))] H := hP
  have hD : va_D A [(h0, .inr (2, [.int 0, .int 0, .ref q1, .int 0, .ref q2, .null, .int 0, .null, .null, .long 0, .long 0, .long 0, .long 0, .int 0, .int 0])), (q1, .inl (k1, 18, .inl (fun _ => 0))), (q2, .inl (k2, 24, .inr (.inl (fun _ => 0))))] := hD
  refine lv_aload_n hx hb d_M_init_20 rfl (lv_at hl 0 rfl) ?_
  refine lv_bipush (v := 24) hx hb d_M_init_21 (by decide) ?_
  refine va_newa (atype := .long) (ty := .long) (N' := 24) (a0 := (24, .inr (.inl (fun _ => 0)))) hx hb (hts _ m_38) rfl hK hP hD hS hA (fun _ => rfl) (by decide) (by decide) (by decide) (Nat.le_of_ble_eq_true rfl) (Nat.le_of_ble_eq_true rfl) d_M_init_23 (fun q3 k3 H hK hP hD hS => ?_)
  have hP : va_P (dC, dI) vwCl [(h0, .inr (2, [.int 0, .int 0, .ref q1, .int 0, .ref q2, .null, .int 0, .null, .null, .long 0, .long 0, .long 0, .long 0, .int 0, .int 0])), (q1, .inl (k1, 18, .inl (fun _ => 0))), (q2, .inl (k2, 24, .inr (.inl (fun _ => 0)))), (q3, .inl (k3, 24, .inr (.inl (fun _ => 0))))] H := hP
  have hD : va_D A [(h0, .inr (2, [.int 0, .int 0, .ref q1, .int 0, .ref q2, .null, .int 0, .null, .null, .long 0, .long 0, .long 0, .long 0, .int 0, .int 0])), (q1, .inl (k1, 18, .inl (fun _ => 0))), (q2, .inl (k2, 24, .inr (.inl (fun _ => 0)))), (q3, .inl (k3, 24, .inr (.inl (fun _ => 0))))] := hD
  have hK : va_K (dC, dI) vwCl [(k1, .int), (k2, .long), (k3, .long)] s := hK
  refine W.widen (k := 3) (n := 66) (by omega) (by omega) ?_
  refine va_putF (D := (dC, dI)) (ci := 2) (v := .ref q3) (ty := .array .long) (C := RM) (T := TM) (N := 15) hx hb hts i_M tyM tyM_ok nmM hown hK hP hD hS 0 rfl rfl 5 (by decide) (hts _ m_381) (fun _ h9 => h9) rfl hin rfl (by decide +kernel) rfl rfl (Nat.le_of_ble_eq_true rfl) d_M_init_25 (fun H locs hP hD hS => ?_)
  have hP : va_P (dC, dI) vwCl [(h0, .inr (2, [.int 0, .int 0, .ref q1, .int 0, .ref q2, .ref q3, .int 0, .null, .null, .long 0, .long 0, .long 0, .long 0, .int 0, .int 0])), (q1, .inl (k1, 18, .inl (fun _ => 0))), (q2, .inl (k2, 24, .inr (.inl (fun _ => 0)))), (q3, .inl (k3, 24, .inr (.inl (fun _ => 0))))] H := hP
  have hD : va_D A [(h0, .inr (2, [.int 0, .int 0, .ref q1, .int 0, .ref q2, .ref q3, .int 0, .null, .null, .long 0, .long 0, .long 0, .long 0, .int 0, .int 0])), (q1, .inl (k1, 18, .inl (fun _ => 0))), (q2, .inl (k2, 24, .inr (.inl (fun _ => 0)))), (q3, .inl (k3, 24, .inr (.inl (fun _ => 0))))] := hD
  refine lv_aload_n hx hb d_M_init_28 rfl (lv_at hl 0 rfl) ?_
  refine lv_bipush (v := 6) hx hb d_M_init_29 (by decide) ?_
  refine va_newa (atype := .long) (ty := .long) (N' := 6) (a0 := (6, .inr (.inl (fun _ => 0)))) hx hb (hts _ m_38) rfl hK hP hD hS hA (fun _ => rfl) (by decide) (by decide) (by decide) (Nat.le_of_ble_eq_true rfl) (Nat.le_of_ble_eq_true rfl) d_M_init_31 (fun q4 k4 H hK hP hD hS => ?_)
  have hP : va_P (dC, dI) vwCl [(h0, .inr (2, [.int 0, .int 0, .ref q1, .int 0, .ref q2, .ref q3, .int 0, .null, .null, .long 0, .long 0, .long 0, .long 0, .int 0, .int 0])), (q1, .inl (k1, 18, .inl (fun _ => 0))), (q2, .inl (k2, 24, .inr (.inl (fun _ => 0)))), (q3, .inl (k3, 24, .inr (.inl (fun _ => 0)))), (q4, .inl (k4, 6, .inr (.inl (fun _ => 0))))] H := hP
  have hD : va_D A [(h0, .inr (2, [.int 0, .int 0, .ref q1, .int 0, .ref q2, .ref q3, .int 0, .null, .null, .long 0, .long 0, .long 0, .long 0, .int 0, .int 0])), (q1, .inl (k1, 18, .inl (fun _ => 0))), (q2, .inl (k2, 24, .inr (.inl (fun _ => 0)))), (q3, .inl (k3, 24, .inr (.inl (fun _ => 0)))), (q4, .inl (k4, 6, .inr (.inl (fun _ => 0))))] := hD
  have hK : va_K (dC, dI) vwCl [(k1, .int), (k2, .long), (k3, .long), (k4, .long)] s := hK
  refine W.widen (k := 4) (n := 72) (by omega) (by omega) ?_
  refine va_putF (D := (dC, dI)) (ci := 2) (v := .ref q4) (ty := .array .long) (C := RM) (T := TM) (N := 15) hx hb hts i_M tyM tyM_ok nmM hown hK hP hD hS 0 rfl rfl 7 (by decide) (hts _ m_383) (fun _ h9 => h9) rfl hin rfl (by decide +kernel) rfl rfl (Nat.le_of_ble_eq_true rfl) d_M_init_33 (fun H locs hP hD hS => ?_)
  have hP : va_P (dC, dI) vwCl [(h0, .inr (2, [.int 0, .int 0, .ref q1, .int 0, .ref q2, .ref q3, .int 0, .ref q4, .null, .long 0, .long 0, .long 0, .long 0, .int 0, .int 0])), (q1, .inl (k1, 18, .inl (fun _ => 0))), (q2, .inl (k2, 24, .inr (.inl (fun _ => 0)))), (q3, .inl (k3, 24, .inr (.inl (fun _ => 0)))), (q4, .inl (k4, 6, .inr (.inl (fun _ => 0))))] H := hP
  have hD : va_D A [(h0, .inr (2, [.int 0, .int 0, .ref q1, .int 0, .ref q2, .ref q3, .int 0, .ref q4, .null, .long 0, .long 0, .long 0, .long 0, .int 0, .int 0])), (q1, .inl (k1, 18, .inl (fun _ => 0))), (q2, .inl (k2, 24, .inr (.inl (fun _ => 0)))), (q3, .inl (k3, 24, .inr (.inl (fun _ => 0)))), (q4, .inl (k4, 6, .inr (.inl (fun _ => 0))))] := hD
  refine lv_aload_n hx hb d_M_init_36 rfl (lv_at hl 0 rfl) ?_
  refine lv_bipush (v := 6) hx hb d_M_init_37 (by decide) ?_
  refine va_newa (atype := .long) (ty := .long) (N' := 6) (a0 := (6, .inr (.inl (fun _ => 0)))) hx hb (hts _ m_38) rfl hK hP hD hS hA (fun _ => rfl) (by decide) (by decide) (by decide) (Nat.le_of_ble_eq_true rfl) (Nat.le_of_ble_eq_true rfl) d_M_init_39 (fun q5 k5 H hK hP hD hS => ?_)
  have hP : va_P (dC, dI) vwCl [(h0, .inr (2, [.int 0, .int 0, .ref q1, .int 0, .ref q2, .ref q3, .int 0, .ref q4, .null, .long 0, .long 0, .long 0, .long 0, .int 0, .int 0])), (q1, .inl (k1, 18, .inl (fun _ => 0))), (q2, .inl (k2, 24, .inr (.inl (fun _ => 0)))), (q3, .inl (k3, 24, .inr (.inl (fun _ => 0)))), (q4, .inl (k4, 6, .inr (.inl (fun _ => 0)))), (q5, .inl (k5, 6, .inr (.inl (fun _ => 0))))] H := hP
  have hD : va_D A [(h0, .inr (2, [.int 0, .int 0, .ref q1, .int 0, .ref q2, .ref q3, .int 0, .ref q4, .null, .long 0, .long 0, .long 0, .long 0, .int 0, .int 0])), (q1, .inl (k1, 18, .inl (fun _ => 0))), (q2, .inl (k2, 24, .inr (.inl (fun _ => 0)))), (q3, .inl (k3, 24, .inr (.inl (fun _ => 0)))), (q4, .inl (k4, 6, .inr (.inl (fun _ => 0)))), (q5, .inl (k5, 6, .inr (.inl (fun _ => 0))))] := hD
  have hK : va_K (dC, dI) vwCl [(k1, .int), (k2, .long), (k3, .long), (k4, .long), (k5, .long)] s := hK
  refine W.widen (k := 5) (n := 78) (by omega) (by omega) ?_
  refine va_putF (D := (dC, dI)) (ci := 2) (v := .ref q5) (ty := .array .long) (C := RM) (T := TM) (N := 15) hx hb hts i_M tyM tyM_ok nmM hown hK hP hD hS 0 rfl rfl 8 (by decide) (hts _ m_384) (fun _ h9 => h9) rfl hin rfl (by decide +kernel) rfl rfl (Nat.le_of_ble_eq_true rfl) d_M_init_41 (fun H locs hP hD hS => ?_)
  have hP : va_P (dC, dI) vwCl [(h0, .inr (2, [.int 0, .int 0, .ref q1, .int 0, .ref q2, .ref q3, .int 0, .ref q4, .ref q5, .long 0, .long 0, .long 0, .long 0, .int 0, .int 0])), (q1, .inl (k1, 18, .inl (fun _ => 0))), (q2, .inl (k2, 24, .inr (.inl (fun _ => 0)))), (q3, .inl (k3, 24, .inr (.inl (fun _ => 0)))), (q4, .inl (k4, 6, .inr (.inl (fun _ => 0)))), (q5, .inl (k5, 6, .inr (.inl (fun _ => 0))))] H := hP
  have hD : va_D A [(h0, .inr (2, [.int 0, .int 0, .ref q1, .int 0, .ref q2, .ref q3, .int 0, .ref q4, .ref q5, .long 0, .long 0, .long 0, .long 0, .int 0, .int 0])), (q1, .inl (k1, 18, .inl (fun _ => 0))), (q2, .inl (k2, 24, .inr (.inl (fun _ => 0)))), (q3, .inl (k3, 24, .inr (.inl (fun _ => 0)))), (q4, .inl (k4, 6, .inr (.inl (fun _ => 0)))), (q5, .inl (k5, 6, .inr (.inl (fun _ => 0))))] := hD
  exact W.vret hx hb hr (fun t ht hW => ⟨⟨(), rfl, trivial, q1, q2, q3, q4, q5, k1, k2, k3, k4, k5, by rw [ht]; exact hP, va_K.moved hW.alike hK, hD⟩, hS.F ht⟩) hS.2.2 d_M_init_44
