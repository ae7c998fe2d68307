/-! the class's constructor -/
theorem va_AOA.moved {t : FieldType} {u U : State} (hvm : u.vm.Alike U.vm) (h : va_AOA t u) : va_AOA t U := by
  have e : (Cond.arrayOver (.array t)).before #[] U = (Cond.arrayOver (.array t)).before #[] u := by
    simp only [Cond.before, Cond.holds, Cond.value, hvm.findClass]
    congr 1
    congr 1
    funext comp
    have hi : (U.vm.classes.findIdx? fun (x : Class) => match x.kind with | .array component _ => component == comp | _ => false) = (u.vm.classes.findIdx? fun (x : Class) => match x.kind with | .array component _ => component == comp | _ => false) := by
      have b1 := va_idx_bare U.vm comp
      have b2 := va_idx_bare u.vm comp
      have b3 : U.vm.bare = u.vm.bare := by first | exact hvm.bare_eq | exact hvm.bare_eq.symm
      rw [b3] at b1
      exact b1.symm.trans b2
    refine (congrArg (fun o : Option Nat => o.bind _) hi).trans ?_
    congr 1
    funext c
    exact hvm.class_map _ (fun k r _ _ => rfl) c
  unfold va_AOA
  rw [e]
  exact h
def pRi (D : va_G) (ws : va_W) (tys : List (ClassId × FieldType)) (sz : Nat) (U : State) : Prop := pRw D ws tys sz U ∧ va_AOA .int U
theorem pRi_bl {D : va_G} {ws : va_W} {tys : List (ClassId × FieldType)} {sz : Nat} {av : List Value} : FrameBlind (va_Pc av (pRi D ws tys sz)) := fun a U g mk q => by
  obtain ⟨q0, q1, q2⟩ := q
  exact ⟨q0, (pRw_bl (av := av) a U g mk ⟨q0, q1⟩).2, va_AOA.moved (u := U) (U := U.calling g mk a) (Vm.Alike.refl U.vm) q2⟩
theorem pl_rows (r : Nat → Nat) (n : Nat) (f : Nat → va_E) (e : va_E) : va_pl ([] ++ (List.range n).map r) (vr_up f ((List.range n).map r) e) = (List.range n).map (fun i => (r i, e)) := by
  unfold va_pl
  rw [List.nil_append, List.map_map]
  apply List.map_congr_left
  intro i hi
  show (r i, vr_up f ((List.range n).map r) e (r i)) = _
  rw [vr_up_in (List.mem_map_of_mem hi)]
/-- the addresses, in the world's order -/
def mkH (q0 q1 q2 q3 q4 q5 q6 q7 q8 q9 q10 q11 q12 q13 : Nat) (r : Nat → Nat) : Nat → Nat
  | 0 => q0 | 1 => q1 | 2 => q2 | 3 => q3 | 4 => q4 | 5 => q5 | 6 => q6 | 7 => q7 | 8 => q8 | 9 => q9 | 10 => q10 | 11 => q11 | 12 => q12 | 13 => q13
  | i + 14 => r i
def mkK (k1 k2 k3 k5 k6 k8 k9 k10 k11 k12 k13 : ClassId) : Nat → ClassId
  | 1 => k1 | 2 => k2 | 3 => k3 | 5 => k5 | 6 => k6 | 8 => k8 | 9 => k9 | 10 => k10 | 11 => k11 | 12 => k12 | 13 => k13 | _ => k1
def cs0 : CS := ((fun _ => 0), (fun _ => 0), (fun _ => 0), 0, (0, (fun _ => 0), (fun _ => 0)), (0, (fun _ => 0), (fun _ => 0)), (fun _ => 0), (fun _ => 0), (fun _ _ => 0), (fun _ => 0))
theorem cs0_lin : cLin cs0 0 (fun _ => 0) (fun _ => 0) (fun _ => 0) := ⟨rfl, by omega, fun i hi => absurd hi (Nat.not_lt_zero i), fun i hi => absurd hi (Nat.not_lt_zero i)⟩
set_option maxHeartbeats 8000000 in
set_option maxRecDepth 100000 in
theorem t_C_init (l : Launch) (dC : Nat → ClassId) (dI : Nat → Nat → Nat) (h0 : Nat) (sz : Nat) : Met l y_C_init (Cond.code y_C_init prog_1_method_1_code 1 none :: cw) ({ frames := 6, cells := 44, slots := 395, locals := 152 } : Room) (va_Pc [.ref h0] (pRi (dC, dI) [(h0, .inr (1, [.null, .null, .null, .int 0, .null, .null, .null, .null, .null, .null]))] [] sz)) (va_Qv (fun u : CS => cInv u 0 (fun _ => 0) (fun _ => 0) (fun _ => 0)) (fun u t => ∃ (h : Nat → Nat) (k : Nat → ClassId), h 0 = h0 ∧ va_P (dC, dI) vwCl (WC h k u) t.heap ∧ va_K (dC, dI) vwCl (YC k) t ∧ va_D (va_A [(h0, .inr (1, [.null, .null, .null, .int 0, .null, .null, .null, .null, .null, .null]))] sz) (WC h k u)) (va_A [(h0, .inr (1, [.null, .null, .null, .int 0, .null, .null, .null, .null, .null, .null]))] sz)) 44 395 (va_A [(h0, .inr (1, [.null, .null, .null, .int 0, .null, .null, .null, .null, .null, .null]))] sz) := by
  refine Met.ofW (cc := prog_1_method_1_code) (maxL := 1) (ret := none) (by decide) rfl ?_
  intro p e s m args below meth c s₁ B hml hv
  obtain ⟨rfl, ⟨hsz, hP, hK, hN, hD0⟩, hO⟩ := hv
  have hx := B.exec
  have hb := B.bytes
  have hr := B.returns
  have hts : ∀ w ∈ cw, w.before _ s = true := fun w h => atoms_spec (ws := (Cond.code y_C_init prog_1_method_1_code 1 none :: cw)) B.pre w (List.mem_cons_of_mem _ h)
  have hown : s.vm.findClass RC = some m.cls := findClass_of_methodNamed B.named
  have hlocks := B.notSynchronized
  have hin : meth.name = "<init>" := (name_of_methodNamed B.named B.method).1
  subst hsz
  have hD := hD0.self (sz := s.heap.size)
  generalize hAe : va_A [(h0, .inr (1, [.null, .null, .null, .int 0, .null, .null, .null, .null, .null, .null]))] s.heap.size = A at hD ⊢
  have hA : ∀ q : Nat, s.heap.size ≤ q → A q := fun q h => by rw [← hAe]; exact Or.inr h
  have hS : va_S A s.heap s.heap [] := va_S.rf
  have hl := lv_entry ([.ref h0]) (n := 1) (Nat.le_of_ble_eq_true rfl)
  rw [lg_entry_eq]
  generalize (lg_sl ([.ref h0]) ++ List.replicate (1 - (lg_sl ([.ref h0])).length) Slot.unset).toArray = ls at hl ⊢
  have hl : lv_has ls 1 [(0, .ref h0)] := hl
  refine lv_aload_n hx hb d_C_init_0 rfl (lv_at hl 0 rfl) ?_
  refine W.objInit hx hb hown (hts _ m_17) (hts _ m_18) (hts _ m_19) rfl (by rw [hml]; exact hl.1) rfl d_C_init_1 (Nat.le_of_ble_eq_true rfl) (Nat.le_of_ble_eq_true rfl) ?_
  refine W.eq (g2 := F0 m 4 ls []) rfl ?_
  refine lv_aload_n hx hb d_C_init_4 rfl (lv_at hl 0 rfl) ?_
  refine lv_bipush (v := 6) hx hb d_C_init_5 (by decide) ?_
  refine va_newa (atype := .int) (ty := .int) (N' := 6) (a0 := (6, .inl (fun _ => 0))) hx hb (hts _ m_37) rfl hK hP hD hS hA (fun _ => rfl) (by decide) (by decide) (by decide) (Nat.le_of_ble_eq_true rfl) (Nat.le_of_ble_eq_true rfl) d_C_init_7 (fun q1 k1 H hK hP hD hS => ?_)
  have hP : va_P (dC, dI) vwCl [(h0, .inr (1, [.null, .null, .null, .int 0, .null, .null, .null, .null, .null, .null])), (q1, .inl (k1, 6, .inl (fun _ => 0)))] H := hP
  have hD : va_D A [(h0, .inr (1, [.null, .null, .null, .int 0, .null, .null, .null, .null, .null, .null])), (q1, .inl (k1, 6, .inl (fun _ => 0)))] := hD
  have hK : va_K (dC, dI) vwCl [(k1, .int)] s := hK
  refine W.widen (k := 1) (n := 6) (by omega) (by omega) ?_
  refine va_putF (D := (dC, dI)) (ci := 1) (v := .ref q1) (ty := .array .int) (C := RC) (T := TC) (N := 10) hx hb hts i_C tyC tyC_ok nmC hown hK hP hD hS 0 rfl rfl 0 (by decide) (hts _ m_105) (fun _ h9 => h9) rfl hin rfl (by decide +kernel) rfl rfl (Nat.le_of_ble_eq_true rfl) d_C_init_9 (fun H locs hP hD hS => ?_)
  have hP : va_P (dC, dI) vwCl [(h0, .inr (1, [.ref q1, .null, .null, .int 0, .null, .null, .null, .null, .null, .null])), (q1, .inl (k1, 6, .inl (fun _ => 0)))] H := hP
  have hD : va_D A [(h0, .inr (1, [.ref q1, .null, .null, .int 0, .null, .null, .null, .null, .null, .null])), (q1, .inl (k1, 6, .inl (fun _ => 0)))] := hD
  refine lv_aload_n hx hb d_C_init_12 rfl (lv_at hl 0 rfl) ?_
  refine lv_bipush (v := 6) hx hb d_C_init_13 (by decide) ?_
  refine va_newa (atype := .int) (ty := .int) (N' := 6) (a0 := (6, .inl (fun _ => 0))) hx hb (hts _ m_37) rfl hK hP hD hS hA (fun _ => rfl) (by decide) (by decide) (by decide) (Nat.le_of_ble_eq_true rfl) (Nat.le_of_ble_eq_true rfl) d_C_init_15 (fun q2 k2 H hK hP hD hS => ?_)
  have hP : va_P (dC, dI) vwCl [(h0, .inr (1, [.ref q1, .null, .null, .int 0, .null, .null, .null, .null, .null, .null])), (q1, .inl (k1, 6, .inl (fun _ => 0))), (q2, .inl (k2, 6, .inl (fun _ => 0)))] H := hP
  have hD : va_D A [(h0, .inr (1, [.ref q1, .null, .null, .int 0, .null, .null, .null, .null, .null, .null])), (q1, .inl (k1, 6, .inl (fun _ => 0))), (q2, .inl (k2, 6, .inl (fun _ => 0)))] := hD
  have hK : va_K (dC, dI) vwCl [(k1, .int), (k2, .int)] s := hK
  refine W.widen (k := 2) (n := 12) (by omega) (by omega) ?_
  refine va_putF (D := (dC, dI)) (ci := 1) (v := .ref q2) (ty := .array .int) (C := RC) (T := TC) (N := 10) hx hb hts i_C tyC tyC_ok nmC hown hK hP hD hS 0 rfl rfl 1 (by decide) (hts _ m_106) (fun _ h9 => h9) rfl hin rfl (by decide +kernel) rfl rfl (Nat.le_of_ble_eq_true rfl) d_C_init_17 (fun H locs hP hD hS => ?_)
  have hP : va_P (dC, dI) vwCl [(h0, .inr (1, [.ref q1, .ref q2, .null, .int 0, .null, .null, .null, .null, .null, .null])), (q1, .inl (k1, 6, .inl (fun _ => 0))), (q2, .inl (k2, 6, .inl (fun _ => 0)))] H := hP
  have hD : va_D A [(h0, .inr (1, [.ref q1, .ref q2, .null, .int 0, .null, .null, .null, .null, .null, .null])), (q1, .inl (k1, 6, .inl (fun _ => 0))), (q2, .inl (k2, 6, .inl (fun _ => 0)))] := hD
  refine lv_aload_n hx hb d_C_init_20 rfl (lv_at hl 0 rfl) ?_
  refine lv_bipush (v := 6) hx hb d_C_init_21 (by decide) ?_
  refine va_newa (atype := .int) (ty := .int) (N' := 6) (a0 := (6, .inl (fun _ => 0))) hx hb (hts _ m_37) rfl hK hP hD hS hA (fun _ => rfl) (by decide) (by decide) (by decide) (Nat.le_of_ble_eq_true rfl) (Nat.le_of_ble_eq_true rfl) d_C_init_23 (fun q3 k3 H hK hP hD hS => ?_)
  have hP : va_P (dC, dI) vwCl [(h0, .inr (1, [.ref q1, .ref q2, .null, .int 0, .null, .null, .null, .null, .null, .null])), (q1, .inl (k1, 6, .inl (fun _ => 0))), (q2, .inl (k2, 6, .inl (fun _ => 0))), (q3, .inl (k3, 6, .inl (fun _ => 0)))] H := hP
  have hD : va_D A [(h0, .inr (1, [.ref q1, .ref q2, .null, .int 0, .null, .null, .null, .null, .null, .null])), (q1, .inl (k1, 6, .inl (fun _ => 0))), (q2, .inl (k2, 6, .inl (fun _ => 0))), (q3, .inl (k3, 6, .inl (fun _ => 0)))] := hD
  have hK : va_K (dC, dI) vwCl [(k1, .int), (k2, .int), (k3, .int)] s := hK
  refine W.widen (k := 3) (n := 18) (by omega) (by omega) ?_
  refine va_putF (D := (dC, dI)) (ci := 1) (v := .ref q3) (ty := .array .int) (C := RC) (T := TC) (N := 10) hx hb hts i_C tyC tyC_ok nmC hown hK hP hD hS 0 rfl rfl 2 (by decide) (hts _ m_107) (fun _ h9 => h9) rfl hin rfl (by decide +kernel) rfl rfl (Nat.le_of_ble_eq_true rfl) d_C_init_25 (fun H locs hP hD hS => ?_)
  have hP : va_P (dC, dI) vwCl [(h0, .inr (1, [.ref q1, .ref q2, .ref q3, .int 0, .null, .null, .null, .null, .null, .null])), (q1, .inl (k1, 6, .inl (fun _ => 0))), (q2, .inl (k2, 6, .inl (fun _ => 0))), (q3, .inl (k3, 6, .inl (fun _ => 0)))] H := hP
  have hD : va_D A [(h0, .inr (1, [.ref q1, .ref q2, .ref q3, .int 0, .null, .null, .null, .null, .null, .null])), (q1, .inl (k1, 6, .inl (fun _ => 0))), (q2, .inl (k2, 6, .inl (fun _ => 0))), (q3, .inl (k3, 6, .inl (fun _ => 0)))] := hD
  refine lv_aload_n hx hb d_C_init_28 rfl (lv_at hl 0 rfl) ?_
  refine lv_iconst (v := 0) hx hb d_C_init_29 (by decide) ?_
  refine va_put (D := (dC, dI)) (ci := 1) (v := .int 0) (ty := .int) (C := RC) (T := TC) (N := 10) hx hb hts i_C tyC tyC_ok nmC hown hK hP hD hS 0 rfl rfl 3 (by decide) (hts _ m_108) (fun _ h9 => h9) rfl (by decide +kernel) rfl rfl (Nat.le_of_ble_eq_true rfl) d_C_init_30 (fun H locs hP hD hS => ?_)
  have hP : va_P (dC, dI) vwCl [(h0, .inr (1, [.ref q1, .ref q2, .ref q3, .int 0, .null, .null, .null, .null, .null, .null])), (q1, .inl (k1, 6, .inl (fun _ => 0))), (q2, .inl (k2, 6, .inl (fun _ => 0))), (q3, .inl (k3, 6, .inl (fun _ => 0)))] H := hP
  have hD : va_D A [(h0, .inr (1, [.ref q1, .ref q2, .ref q3, .int 0, .null, .null, .null, .null, .null, .null])), (q1, .inl (k1, 6, .inl (fun _ => 0))), (q2, .inl (k2, 6, .inl (fun _ => 0))), (q3, .inl (k3, 6, .inl (fun _ => 0)))] := hD
  refine lv_aload_n hx hb d_C_init_33 rfl (lv_at hl 0 rfl) ?_
  refine va_new (ci := 0) (fs := [.null, .null, .int 0]) (C := RK) (T := TK) (N := 3) hx hb hts i_K tyK tyK_ok hown (hts _ m_20) (hts _ m_21) (hts _ m_2) hK hP hD hS hA rfl (fun j hj => by rcases (show j = 0 ∨ j = 1 ∨ j = 2 by omega) with rfl | rfl | rfl <;> rfl) (Nat.le_of_ble_eq_true rfl) (Nat.le_of_ble_eq_true rfl) d_C_init_34 (fun q4 H hP hD hS => ?_)
  have hP : va_P (dC, dI) vwCl [(h0, .inr (1, [.ref q1, .ref q2, .ref q3, .int 0, .null, .null, .null, .null, .null, .null])), (q1, .inl (k1, 6, .inl (fun _ => 0))), (q2, .inl (k2, 6, .inl (fun _ => 0))), (q3, .inl (k3, 6, .inl (fun _ => 0))), (q4, .inr (0, [.null, .null, .int 0]))] H := hP
  have hD : va_D A [(h0, .inr (1, [.ref q1, .ref q2, .ref q3, .int 0, .null, .null, .null, .null, .null, .null])), (q1, .inl (k1, 6, .inl (fun _ => 0))), (q2, .inl (k2, 6, .inl (fun _ => 0))), (q3, .inl (k3, 6, .inl (fun _ => 0))), (q4, .inr (0, [.null, .null, .int 0]))] := hD
  refine W.widen (k := 4) (n := 21) (by omega) (by omega) ?_
  refine lv_dup hx hb d_C_init_37 rfl ?_
  have hPc := hP.sub (ws' := [(q4, .inr (0, [.null, .null, .int 0]))]) [4] rfl
  have hDc := hD.sub (ws' := [(q4, .inr (0, [.null, .null, .int 0]))]) [4] (by decide) rfl
  have hKc := hK.sub (tys' := []) [] rfl
  have hFc := va_free (wc := [(q4, .inr (0, [.null, .null, .int 0]))]) hD hS hA [4] rfl
  refine va_callv (va_runI (As := []) (rest := [.ref q4, .ref h0]) ⟨hx, hb, hml, hown, hts⟩ (t_K_init l dC dI q4 H.size) (cwI 0 hts (cw_call m_24) rfl rfl rfl (hts _ m_2) (hts _ m_22) (hts _ m_23) rfl (by decide +kernel) ⟨Nat.le_of_ble_eq_true rfl, Nat.le_of_ble_eq_true rfl⟩) ⟨pRw_bl, fun U hU hW => ⟨rfl, pRw_at hPc hKc hN hDc hU hW⟩⟩ rfl rfl hl.1 rfl (lv_room (Nat.le_of_ble_eq_true rfl)) d_C_init_38 ⟨Nat.le_of_ble_eq_true rfl, Nat.le_of_ble_eq_true rfl⟩) hS (fun q _ h => hFc q h) hFc (fun u t H1 locs ht hvm hw hB hz1 hk1 hS => ?_)
  obtain ⟨q5, q6, k5, k6, hP1, hK1, hD1⟩ := hB
  rw [ht] at hP1
  have hK1 := va_K.moved hvm.symm hK1
  obtain ⟨hP, hD⟩ := va_join (wr := [(h0, .inr (1, [.ref q1, .ref q2, .ref q3, .int 0, .null, .null, .null, .null, .null, .null])), (q1, .inl (k1, 6, .inl (fun _ => 0))), (q2, .inl (k2, 6, .inl (fun _ => 0))), (q3, .inl (k3, 6, .inl (fun _ => 0)))]) (w1 := [(q4, .inr (0, [.ref q5, .ref q6, .int 0])), (q5, .inl (k5, 15, .inr (.inl (fun _ => 0)))), (q6, .inl (k6, 15, .inr (.inl (fun _ => 0))))]) hP hD [4] [0, 1, 2, 3] rfl rfl (by decide) (by decide) hk1 hFc hP1 hD1
  have hK := (hK.sub (tys' := [(k1, .int), (k2, .int), (k3, .int)]) [0, 1, 2] rfl).app hK1
  generalize H1 = H at hP hS ⊢
  have hP : va_P (dC, dI) vwCl [(h0, .inr (1, [.ref q1, .ref q2, .ref q3, .int 0, .null, .null, .null, .null, .null, .null])), (q1, .inl (k1, 6, .inl (fun _ => 0))), (q2, .inl (k2, 6, .inl (fun _ => 0))), (q3, .inl (k3, 6, .inl (fun _ => 0))), (q4, .inr (0, [.ref q5, .ref q6, .int 0])), (q5, .inl (k5, 15, .inr (.inl (fun _ => 0)))), (q6, .inl (k6, 15, .inr (.inl (fun _ => 0))))] H := hP
  have hD : va_D A [(h0, .inr (1, [.ref q1, .ref q2, .ref q3, .int 0, .null, .null, .null, .null, .null, .null])), (q1, .inl (k1, 6, .inl (fun _ => 0))), (q2, .inl (k2, 6, .inl (fun _ => 0))), (q3, .inl (k3, 6, .inl (fun _ => 0))), (q4, .inr (0, [.ref q5, .ref q6, .int 0])), (q5, .inl (k5, 15, .inr (.inl (fun _ => 0)))), (q6, .inl (k6, 15, .inr (.inl (fun _ => 0))))] := hD
  have hK : va_K (dC, dI) vwCl [(k1, .int), (k2, .int), (k3, .int), (k5, .long), (k6, .long)] s := hK
  refine W.widen (k := 6) (n := 51) (by omega) (by omega) ?_
  refine va_putF (D := (dC, dI)) (ci := 1) (v := .ref q4) (ty := .object "CellProjection$Marks") (C := RC) (T := TC) (N := 10) hx hb hts i_C tyC tyC_ok nmC hown hK hP hD hS 0 rfl rfl 4 (by decide) (hts _ m_109) (fun _ h9 => h9) rfl hin rfl (by decide +kernel) rfl rfl (Nat.le_of_ble_eq_true rfl) d_C_init_41 (fun H locs hP hD hS => ?_)
  have hP : va_P (dC, dI) vwCl [(h0, .inr (1, [.ref q1, .ref q2, .ref q3, .int 0, .ref q4, .null, .null, .null, .null, .null])), (q1, .inl (k1, 6, .inl (fun _ => 0))), (q2, .inl (k2, 6, .inl (fun _ => 0))), (q3, .inl (k3, 6, .inl (fun _ => 0))), (q4, .inr (0, [.ref q5, .ref q6, .int 0])), (q5, .inl (k5, 15, .inr (.inl (fun _ => 0)))), (q6, .inl (k6, 15, .inr (.inl (fun _ => 0))))] H := hP
  have hD : va_D A [(h0, .inr (1, [.ref q1, .ref q2, .ref q3, .int 0, .ref q4, .null, .null, .null, .null, .null])), (q1, .inl (k1, 6, .inl (fun _ => 0))), (q2, .inl (k2, 6, .inl (fun _ => 0))), (q3, .inl (k3, 6, .inl (fun _ => 0))), (q4, .inr (0, [.ref q5, .ref q6, .int 0])), (q5, .inl (k5, 15, .inr (.inl (fun _ => 0)))), (q6, .inl (k6, 15, .inr (.inl (fun _ => 0))))] := hD
  refine lv_aload_n hx hb d_C_init_44 rfl (lv_at hl 0 rfl) ?_
  refine va_new (ci := 0) (fs := [.null, .null, .int 0]) (C := RK) (T := TK) (N := 3) hx hb hts i_K tyK tyK_ok hown (hts _ m_20) (hts _ m_21) (hts _ m_2) hK hP hD hS hA rfl (fun j hj => by rcases (show j = 0 ∨ j = 1 ∨ j = 2 by omega) with rfl | rfl | rfl <;> rfl) (Nat.le_of_ble_eq_true rfl) (Nat.le_of_ble_eq_true rfl) d_C_init_45 (fun q7 H hP hD hS => ?_)
  have hP : va_P (dC, dI) vwCl [(h0, .inr (1, [.ref q1, .ref q2, .ref q3, .int 0, .ref q4, .null, .null, .null, .null, .null])), (q1, .inl (k1, 6, .inl (fun _ => 0))), (q2, .inl (k2, 6, .inl (fun _ => 0))), (q3, .inl (k3, 6, .inl (fun _ => 0))), (q4, .inr (0, [.ref q5, .ref q6, .int 0])), (q5, .inl (k5, 15, .inr (.inl (fun _ => 0)))), (q6, .inl (k6, 15, .inr (.inl (fun _ => 0)))), (q7, .inr (0, [.null, .null, .int 0]))] H := hP
  have hD : va_D A [(h0, .inr (1, [.ref q1, .ref q2, .ref q3, .int 0, .ref q4, .null, .null, .null, .null, .null])), (q1, .inl (k1, 6, .inl (fun _ => 0))), (q2, .inl (k2, 6, .inl (fun _ => 0))), (q3, .inl (k3, 6, .inl (fun _ => 0))), (q4, .inr (0, [.ref q5, .ref q6, .int 0])), (q5, .inl (k5, 15, .inr (.inl (fun _ => 0)))), (q6, .inl (k6, 15, .inr (.inl (fun _ => 0)))), (q7, .inr (0, [.null, .null, .int 0]))] := hD
  refine W.widen (k := 7) (n := 54) (by omega) (by omega) ?_
  refine lv_dup hx hb d_C_init_48 rfl ?_
  have hPc := hP.sub (ws' := [(q7, .inr (0, [.null, .null, .int 0]))]) [7] rfl
  have hDc := hD.sub (ws' := [(q7, .inr (0, [.null, .null, .int 0]))]) [7] (by decide) rfl
  have hKc := hK.sub (tys' := []) [] rfl
  have hFc := va_free (wc := [(q7, .inr (0, [.null, .null, .int 0]))]) hD hS hA [7] rfl
  refine va_callv (va_runI (As := []) (rest := [.ref q7, .ref h0]) ⟨hx, hb, hml, hown, hts⟩ (t_K_init l dC dI q7 H.size) (cwI 0 hts (cw_call m_24) rfl rfl rfl (hts _ m_2) (hts _ m_22) (hts _ m_23) rfl (by decide +kernel) ⟨Nat.le_of_ble_eq_true rfl, Nat.le_of_ble_eq_true rfl⟩) ⟨pRw_bl, fun U hU hW => ⟨rfl, pRw_at hPc hKc hN hDc hU hW⟩⟩ rfl rfl hl.1 rfl (lv_room (Nat.le_of_ble_eq_true rfl)) d_C_init_49 ⟨Nat.le_of_ble_eq_true rfl, Nat.le_of_ble_eq_true rfl⟩) hS (fun q _ h => hFc q h) hFc (fun u t H1 locs ht hvm hw hB hz1 hk1 hS => ?_)
  obtain ⟨q8, q9, k8, k9, hP1, hK1, hD1⟩ := hB
  rw [ht] at hP1
  have hK1 := va_K.moved hvm.symm hK1
  obtain ⟨hP, hD⟩ := va_join (wr := [(h0, .inr (1, [.ref q1, .ref q2, .ref q3, .int 0, .ref q4, .null, .null, .null, .null, .null])), (q1, .inl (k1, 6, .inl (fun _ => 0))), (q2, .inl (k2, 6, .inl (fun _ => 0))), (q3, .inl (k3, 6, .inl (fun _ => 0))), (q4, .inr (0, [.ref q5, .ref q6, .int 0])), (q5, .inl (k5, 15, .inr (.inl (fun _ => 0)))), (q6, .inl (k6, 15, .inr (.inl (fun _ => 0))))]) (w1 := [(q7, .inr (0, [.ref q8, .ref q9, .int 0])), (q8, .inl (k8, 15, .inr (.inl (fun _ => 0)))), (q9, .inl (k9, 15, .inr (.inl (fun _ => 0))))]) hP hD [7] [0, 1, 2, 3, 4, 5, 6] rfl rfl (by decide) (by decide) hk1 hFc hP1 hD1
  have hK := (hK.sub (tys' := [(k1, .int), (k2, .int), (k3, .int), (k5, .long), (k6, .long)]) [0, 1, 2, 3, 4] rfl).app hK1
  generalize H1 = H at hP hS ⊢
  have hP : va_P (dC, dI) vwCl [(h0, .inr (1, [.ref q1, .ref q2, .ref q3, .int 0, .ref q4, .null, .null, .null, .null, .null])), (q1, .inl (k1, 6, .inl (fun _ => 0))), (q2, .inl (k2, 6, .inl (fun _ => 0))), (q3, .inl (k3, 6, .inl (fun _ => 0))), (q4, .inr (0, [.ref q5, .ref q6, .int 0])), (q5, .inl (k5, 15, .inr (.inl (fun _ => 0)))), (q6, .inl (k6, 15, .inr (.inl (fun _ => 0)))), (q7, .inr (0, [.ref q8, .ref q9, .int 0])), (q8, .inl (k8, 15, .inr (.inl (fun _ => 0)))), (q9, .inl (k9, 15, .inr (.inl (fun _ => 0))))] H := hP
  have hD : va_D A [(h0, .inr (1, [.ref q1, .ref q2, .ref q3, .int 0, .ref q4, .null, .null, .null, .null, .null])), (q1, .inl (k1, 6, .inl (fun _ => 0))), (q2, .inl (k2, 6, .inl (fun _ => 0))), (q3, .inl (k3, 6, .inl (fun _ => 0))), (q4, .inr (0, [.ref q5, .ref q6, .int 0])), (q5, .inl (k5, 15, .inr (.inl (fun _ => 0)))), (q6, .inl (k6, 15, .inr (.inl (fun _ => 0)))), (q7, .inr (0, [.ref q8, .ref q9, .int 0])), (q8, .inl (k8, 15, .inr (.inl (fun _ => 0)))), (q9, .inl (k9, 15, .inr (.inl (fun _ => 0))))] := hD
  have hK : va_K (dC, dI) vwCl [(k1, .int), (k2, .int), (k3, .int), (k5, .long), (k6, .long), (k8, .long), (k9, .long)] s := hK
  refine W.widen (k := 9) (n := 84) (by omega) (by omega) ?_
  refine va_putF (D := (dC, dI)) (ci := 1) (v := .ref q7) (ty := .object "CellProjection$Marks") (C := RC) (T := TC) (N := 10) hx hb hts i_C tyC tyC_ok nmC hown hK hP hD hS 0 rfl rfl 5 (by decide) (hts _ m_110) (fun _ h9 => h9) rfl hin rfl (by decide +kernel) rfl rfl (Nat.le_of_ble_eq_true rfl) d_C_init_52 (fun H locs hP hD hS => ?_)
  have hP : va_P (dC, dI) vwCl [(h0, .inr (1, [.ref q1, .ref q2, .ref q3, .int 0, .ref q4, .ref q7, .null, .null, .null, .null])), (q1, .inl (k1, 6, .inl (fun _ => 0))), (q2, .inl (k2, 6, .inl (fun _ => 0))), (q3, .inl (k3, 6, .inl (fun _ => 0))), (q4, .inr (0, [.ref q5, .ref q6, .int 0])), (q5, .inl (k5, 15, .inr (.inl (fun _ => 0)))), (q6, .inl (k6, 15, .inr (.inl (fun _ => 0)))), (q7, .inr (0, [.ref q8, .ref q9, .int 0])), (q8, .inl (k8, 15, .inr (.inl (fun _ => 0)))), (q9, .inl (k9, 15, .inr (.inl (fun _ => 0))))] H := hP
  have hD : va_D A [(h0, .inr (1, [.ref q1, .ref q2, .ref q3, .int 0, .ref q4, .ref q7, .null, .null, .null, .null])), (q1, .inl (k1, 6, .inl (fun _ => 0))), (q2, .inl (k2, 6, .inl (fun _ => 0))), (q3, .inl (k3, 6, .inl (fun _ => 0))), (q4, .inr (0, [.ref q5, .ref q6, .int 0])), (q5, .inl (k5, 15, .inr (.inl (fun _ => 0)))), (q6, .inl (k6, 15, .inr (.inl (fun _ => 0)))), (q7, .inr (0, [.ref q8, .ref q9, .int 0])), (q8, .inl (k8, 15, .inr (.inl (fun _ => 0)))), (q9, .inl (k9, 15, .inr (.inl (fun _ => 0))))] := hD
  refine lv_aload_n hx hb d_C_init_55 rfl (lv_at hl 0 rfl) ?_
  refine lv_bipush (v := 31) hx hb d_C_init_56 (by decide) ?_
  refine va_newa (atype := .long) (ty := .long) (N' := 31) (a0 := (31, .inr (.inl (fun _ => 0)))) hx hb (hts _ m_38) rfl hK hP hD hS hA (fun _ => rfl) (by decide) (by decide) (by decide) (Nat.le_of_ble_eq_true rfl) (Nat.le_of_ble_eq_true rfl) d_C_init_58 (fun q10 k10 H hK hP hD hS => ?_)
  have hP : va_P (dC, dI) vwCl [(h0, .inr (1, [.ref q1, .ref q2, .ref q3, .int 0, .ref q4, .ref q7, .null, .null, .null, .null])), (q1, .inl (k1, 6, .inl (fun _ => 0))), (q2, .inl (k2, 6, .inl (fun _ => 0))), (q3, .inl (k3, 6, .inl (fun _ => 0))), (q4, .inr (0, [.ref q5, .ref q6, .int 0])), (q5, .inl (k5, 15, .inr (.inl (fun _ => 0)))), (q6, .inl (k6, 15, .inr (.inl (fun _ => 0)))), (q7, .inr (0, [.ref q8, .ref q9, .int 0])), (q8, .inl (k8, 15, .inr (.inl (fun _ => 0)))), (q9, .inl (k9, 15, .inr (.inl (fun _ => 0)))), (q10, .inl (k10, 31, .inr (.inl (fun _ => 0))))] H := hP
  have hD : va_D A [(h0, .inr (1, [.ref q1, .ref q2, .ref q3, .int 0, .ref q4, .ref q7, .null, .null, .null, .null])), (q1, .inl (k1, 6, .inl (fun _ => 0))), (q2, .inl (k2, 6, .inl (fun _ => 0))), (q3, .inl (k3, 6, .inl (fun _ => 0))), (q4, .inr (0, [.ref q5, .ref q6, .int 0])), (q5, .inl (k5, 15, .inr (.inl (fun _ => 0)))), (q6, .inl (k6, 15, .inr (.inl (fun _ => 0)))), (q7, .inr (0, [.ref q8, .ref q9, .int 0])), (q8, .inl (k8, 15, .inr (.inl (fun _ => 0)))), (q9, .inl (k9, 15, .inr (.inl (fun _ => 0)))), (q10, .inl (k10, 31, .inr (.inl (fun _ => 0))))] := hD
  have hK : va_K (dC, dI) vwCl [(k1, .int), (k2, .int), (k3, .int), (k5, .long), (k6, .long), (k8, .long), (k9, .long), (k10, .long)] s := hK
  refine W.widen (k := 10) (n := 115) (by omega) (by omega) ?_
  refine va_putF (D := (dC, dI)) (ci := 1) (v := .ref q10) (ty := .array .long) (C := RC) (T := TC) (N := 10) hx hb hts i_C tyC tyC_ok nmC hown hK hP hD hS 0 rfl rfl 6 (by decide) (hts _ m_111) (fun _ h9 => h9) rfl hin rfl (by decide +kernel) rfl rfl (Nat.le_of_ble_eq_true rfl) d_C_init_60 (fun H locs hP hD hS => ?_)
  have hP : va_P (dC, dI) vwCl [(h0, .inr (1, [.ref q1, .ref q2, .ref q3, .int 0, .ref q4, .ref q7, .ref q10, .null, .null, .null])), (q1, .inl (k1, 6, .inl (fun _ => 0))), (q2, .inl (k2, 6, .inl (fun _ => 0))), (q3, .inl (k3, 6, .inl (fun _ => 0))), (q4, .inr (0, [.ref q5, .ref q6, .int 0])), (q5, .inl (k5, 15, .inr (.inl (fun _ => 0)))), (q6, .inl (k6, 15, .inr (.inl (fun _ => 0)))), (q7, .inr (0, [.ref q8, .ref q9, .int 0])), (q8, .inl (k8, 15, .inr (.inl (fun _ => 0)))), (q9, .inl (k9, 15, .inr (.inl (fun _ => 0)))), (q10, .inl (k10, 31, .inr (.inl (fun _ => 0))))] H := hP
  have hD : va_D A [(h0, .inr (1, [.ref q1, .ref q2, .ref q3, .int 0, .ref q4, .ref q7, .ref q10, .null, .null, .null])), (q1, .inl (k1, 6, .inl (fun _ => 0))), (q2, .inl (k2, 6, .inl (fun _ => 0))), (q3, .inl (k3, 6, .inl (fun _ => 0))), (q4, .inr (0, [.ref q5, .ref q6, .int 0])), (q5, .inl (k5, 15, .inr (.inl (fun _ => 0)))), (q6, .inl (k6, 15, .inr (.inl (fun _ => 0)))), (q7, .inr (0, [.ref q8, .ref q9, .int 0])), (q8, .inl (k8, 15, .inr (.inl (fun _ => 0)))), (q9, .inl (k9, 15, .inr (.inl (fun _ => 0)))), (q10, .inl (k10, 31, .inr (.inl (fun _ => 0))))] := hD
  refine lv_aload_n hx hb d_C_init_63 rfl (lv_at hl 0 rfl) ?_
  refine lv_bipush (v := 31) hx hb d_C_init_64 (by decide) ?_
  refine va_newa (atype := .long) (ty := .long) (N' := 31) (a0 := (31, .inr (.inl (fun _ => 0)))) hx hb (hts _ m_38) rfl hK hP hD hS hA (fun _ => rfl) (by decide) (by decide) (by decide) (Nat.le_of_ble_eq_true rfl) (Nat.le_of_ble_eq_true rfl) d_C_init_66 (fun q11 k11 H hK hP hD hS => ?_)
  have hP : va_P (dC, dI) vwCl [(h0, .inr (1, [.ref q1, .ref q2, .ref q3, .int 0, .ref q4, .ref q7, .ref q10, .null, .null, .null])), (q1, .inl (k1, 6, .inl (fun _ => 0))), (q2, .inl (k2, 6, .inl (fun _ => 0))), (q3, .inl (k3, 6, .inl (fun _ => 0))), (q4, .inr (0, [.ref q5, .ref q6, .int 0])), (q5, .inl (k5, 15, .inr (.inl (fun _ => 0)))), (q6, .inl (k6, 15, .inr (.inl (fun _ => 0)))), (q7, .inr (0, [.ref q8, .ref q9, .int 0])), (q8, .inl (k8, 15, .inr (.inl (fun _ => 0)))), (q9, .inl (k9, 15, .inr (.inl (fun _ => 0)))), (q10, .inl (k10, 31, .inr (.inl (fun _ => 0)))), (q11, .inl (k11, 31, .inr (.inl (fun _ => 0))))] H := hP
  have hD : va_D A [(h0, .inr (1, [.ref q1, .ref q2, .ref q3, .int 0, .ref q4, .ref q7, .ref q10, .null, .null, .null])), (q1, .inl (k1, 6, .inl (fun _ => 0))), (q2, .inl (k2, 6, .inl (fun _ => 0))), (q3, .inl (k3, 6, .inl (fun _ => 0))), (q4, .inr (0, [.ref q5, .ref q6, .int 0])), (q5, .inl (k5, 15, .inr (.inl (fun _ => 0)))), (q6, .inl (k6, 15, .inr (.inl (fun _ => 0)))), (q7, .inr (0, [.ref q8, .ref q9, .int 0])), (q8, .inl (k8, 15, .inr (.inl (fun _ => 0)))), (q9, .inl (k9, 15, .inr (.inl (fun _ => 0)))), (q10, .inl (k10, 31, .inr (.inl (fun _ => 0)))), (q11, .inl (k11, 31, .inr (.inl (fun _ => 0))))] := hD
  have hK : va_K (dC, dI) vwCl [(k1, .int), (k2, .int), (k3, .int), (k5, .long), (k6, .long), (k8, .long), (k9, .long), (k10, .long), (k11, .long)] s := hK
  refine W.widen (k := 11) (n := 146) (by omega) (by omega) ?_
  refine va_putF (D := (dC, dI)) (ci := 1) (v := .ref q11) (ty := .array .long) (C := RC) (T := TC) (N := 10) hx hb hts i_C tyC tyC_ok nmC hown hK hP hD hS 0 rfl rfl 7 (by decide) (hts _ m_112) (fun _ h9 => h9) rfl hin rfl (by decide +kernel) rfl rfl (Nat.le_of_ble_eq_true rfl) d_C_init_68 (fun H locs hP hD hS => ?_)
  have hP : va_P (dC, dI) vwCl [(h0, .inr (1, [.ref q1, .ref q2, .ref q3, .int 0, .ref q4, .ref q7, .ref q10, .ref q11, .null, .null])), (q1, .inl (k1, 6, .inl (fun _ => 0))), (q2, .inl (k2, 6, .inl (fun _ => 0))), (q3, .inl (k3, 6, .inl (fun _ => 0))), (q4, .inr (0, [.ref q5, .ref q6, .int 0])), (q5, .inl (k5, 15, .inr (.inl (fun _ => 0)))), (q6, .inl (k6, 15, .inr (.inl (fun _ => 0)))), (q7, .inr (0, [.ref q8, .ref q9, .int 0])), (q8, .inl (k8, 15, .inr (.inl (fun _ => 0)))), (q9, .inl (k9, 15, .inr (.inl (fun _ => 0)))), (q10, .inl (k10, 31, .inr (.inl (fun _ => 0)))), (q11, .inl (k11, 31, .inr (.inl (fun _ => 0))))] H := hP
  have hD : va_D A [(h0, .inr (1, [.ref q1, .ref q2, .ref q3, .int 0, .ref q4, .ref q7, .ref q10, .ref q11, .null, .null])), (q1, .inl (k1, 6, .inl (fun _ => 0))), (q2, .inl (k2, 6, .inl (fun _ => 0))), (q3, .inl (k3, 6, .inl (fun _ => 0))), (q4, .inr (0, [.ref q5, .ref q6, .int 0])), (q5, .inl (k5, 15, .inr (.inl (fun _ => 0)))), (q6, .inl (k6, 15, .inr (.inl (fun _ => 0)))), (q7, .inr (0, [.ref q8, .ref q9, .int 0])), (q8, .inl (k8, 15, .inr (.inl (fun _ => 0)))), (q9, .inl (k9, 15, .inr (.inl (fun _ => 0)))), (q10, .inl (k10, 31, .inr (.inl (fun _ => 0)))), (q11, .inl (k11, 31, .inr (.inl (fun _ => 0))))] := hD
  refine lv_aload_n hx hb d_C_init_71 rfl (lv_at hl 0 rfl) ?_
  refine lv_bipush (v := 31) hx hb d_C_init_72 (by decide) ?_
  refine lv_bipush (v := 6) hx hb d_C_init_74 (by decide) ?_
  have hP : va_P (dC, dI) vwCl ([(h0, .inr (1, [.ref q1, .ref q2, .ref q3, .int 0, .ref q4, .ref q7, .ref q10, .ref q11, .null, .null])), (q1, .inl (k1, 6, .inl (fun _ => 0))), (q2, .inl (k2, 6, .inl (fun _ => 0))), (q3, .inl (k3, 6, .inl (fun _ => 0))), (q4, .inr (0, [.ref q5, .ref q6, .int 0])), (q5, .inl (k5, 15, .inr (.inl (fun _ => 0)))), (q6, .inl (k6, 15, .inr (.inl (fun _ => 0)))), (q7, .inr (0, [.ref q8, .ref q9, .int 0])), (q8, .inl (k8, 15, .inr (.inl (fun _ => 0)))), (q9, .inl (k9, 15, .inr (.inl (fun _ => 0)))), (q10, .inl (k10, 31, .inr (.inl (fun _ => 0)))), (q11, .inl (k11, 31, .inr (.inl (fun _ => 0))))] ++ va_pl [] (fun _ => Sum.inl (k1, 6, .inl (fun _ => 0)))) H := hP
  have hD : va_D A ([(h0, .inr (1, [.ref q1, .ref q2, .ref q3, .int 0, .ref q4, .ref q7, .ref q10, .ref q11, .null, .null])), (q1, .inl (k1, 6, .inl (fun _ => 0))), (q2, .inl (k2, 6, .inl (fun _ => 0))), (q3, .inl (k3, 6, .inl (fun _ => 0))), (q4, .inr (0, [.ref q5, .ref q6, .int 0])), (q5, .inl (k5, 15, .inr (.inl (fun _ => 0)))), (q6, .inl (k6, 15, .inr (.inl (fun _ => 0)))), (q7, .inr (0, [.ref q8, .ref q9, .int 0])), (q8, .inl (k8, 15, .inr (.inl (fun _ => 0)))), (q9, .inl (k9, 15, .inr (.inl (fun _ => 0)))), (q10, .inl (k10, 31, .inr (.inl (fun _ => 0)))), (q11, .inl (k11, 31, .inr (.inl (fun _ => 0))))] ++ va_pl [] (fun _ => Sum.inl (k1, 6, .inl (fun _ => 0)))) := hD
  refine va_mna (ty := .int) (cy := k1) (N' := 31) (K' := 6) (z := (6, .inl (fun _ => 0))) hx hb hown (by rw [show ("[" ++ (FieldType.array FieldType.int).toString) = "[[I" by decide +kernel]; exact hts _ m_39) hO (hts _ m_37) (hK.2 0 _ rfl).2 hK hP hD hS hA (by decide) (by decide) (by decide) (by decide) (by decide) (by decide) (by decide) rfl rfl (Nat.le_of_ble_eq_true rfl) (Nat.le_of_ble_eq_true rfl) (fun c => by show ({ cls := c, slots := Array.replicate 6 (.int 0), vm := .none } : Cell) = _; rw [arrV_new]; rfl) d_C_init_76 (fun q12 r k12 H hr1 hr2 hK hP hD hS => ?_)
  rw [pl_rows] at hP hD
  have hP : va_P (dC, dI) vwCl ([(h0, .inr (1, [.ref q1, .ref q2, .ref q3, .int 0, .ref q4, .ref q7, .ref q10, .ref q11, .null, .null])), (q1, .inl (k1, 6, .inl (fun _ => 0))), (q2, .inl (k2, 6, .inl (fun _ => 0))), (q3, .inl (k3, 6, .inl (fun _ => 0))), (q4, .inr (0, [.ref q5, .ref q6, .int 0])), (q5, .inl (k5, 15, .inr (.inl (fun _ => 0)))), (q6, .inl (k6, 15, .inr (.inl (fun _ => 0)))), (q7, .inr (0, [.ref q8, .ref q9, .int 0])), (q8, .inl (k8, 15, .inr (.inl (fun _ => 0)))), (q9, .inl (k9, 15, .inr (.inl (fun _ => 0)))), (q10, .inl (k10, 31, .inr (.inl (fun _ => 0)))), (q11, .inl (k11, 31, .inr (.inl (fun _ => 0)))), (q12, .inl (k12, 31, .inr (.inr (.inr (.inr (fun i => if i < 31 then some (r i) else none))))))] ++ (List.range 31).map (fun i => (r i, Sum.inl (k1, 6, .inl (fun _ => 0))))) H := hP
  have hD : va_D A ([(h0, .inr (1, [.ref q1, .ref q2, .ref q3, .int 0, .ref q4, .ref q7, .ref q10, .ref q11, .null, .null])), (q1, .inl (k1, 6, .inl (fun _ => 0))), (q2, .inl (k2, 6, .inl (fun _ => 0))), (q3, .inl (k3, 6, .inl (fun _ => 0))), (q4, .inr (0, [.ref q5, .ref q6, .int 0])), (q5, .inl (k5, 15, .inr (.inl (fun _ => 0)))), (q6, .inl (k6, 15, .inr (.inl (fun _ => 0)))), (q7, .inr (0, [.ref q8, .ref q9, .int 0])), (q8, .inl (k8, 15, .inr (.inl (fun _ => 0)))), (q9, .inl (k9, 15, .inr (.inl (fun _ => 0)))), (q10, .inl (k10, 31, .inr (.inl (fun _ => 0)))), (q11, .inl (k11, 31, .inr (.inl (fun _ => 0)))), (q12, .inl (k12, 31, .inr (.inr (.inr (.inr (fun i => if i < 31 then some (r i) else none))))))] ++ (List.range 31).map (fun i => (r i, Sum.inl (k1, 6, .inl (fun _ => 0))))) := hD
  have hK : va_K (dC, dI) vwCl [(k1, .int), (k2, .int), (k3, .int), (k5, .long), (k6, .long), (k8, .long), (k9, .long), (k10, .long), (k11, .long), (k12, .array .int)] s := hK
  refine W.widen (k := 43) (n := 363) (by omega) (by omega) ?_
  refine va_putF (D := (dC, dI)) (ci := 1) (v := .ref q12) (ty := .array (.array .int)) (C := RC) (T := TC) (N := 10) hx hb hts i_C tyC tyC_ok nmC hown hK hP hD hS 0 rfl rfl 8 (by decide) (hts _ m_113) (fun _ h9 => h9) rfl hin rfl (by decide +kernel) rfl rfl (Nat.le_of_ble_eq_true rfl) d_C_init_80 (fun H locs hP hD hS => ?_)
  have hP : va_P (dC, dI) vwCl ([(h0, .inr (1, [.ref q1, .ref q2, .ref q3, .int 0, .ref q4, .ref q7, .ref q10, .ref q11, .ref q12, .null])), (q1, .inl (k1, 6, .inl (fun _ => 0))), (q2, .inl (k2, 6, .inl (fun _ => 0))), (q3, .inl (k3, 6, .inl (fun _ => 0))), (q4, .inr (0, [.ref q5, .ref q6, .int 0])), (q5, .inl (k5, 15, .inr (.inl (fun _ => 0)))), (q6, .inl (k6, 15, .inr (.inl (fun _ => 0)))), (q7, .inr (0, [.ref q8, .ref q9, .int 0])), (q8, .inl (k8, 15, .inr (.inl (fun _ => 0)))), (q9, .inl (k9, 15, .inr (.inl (fun _ => 0)))), (q10, .inl (k10, 31, .inr (.inl (fun _ => 0)))), (q11, .inl (k11, 31, .inr (.inl (fun _ => 0)))), (q12, .inl (k12, 31, .inr (.inr (.inr (.inr (fun i => if i < 31 then some (r i) else none))))))] ++ (List.range 31).map (fun i => (r i, Sum.inl (k1, 6, .inl (fun _ => 0))))) H := hP
  have hD : va_D A ([(h0, .inr (1, [.ref q1, .ref q2, .ref q3, .int 0, .ref q4, .ref q7, .ref q10, .ref q11, .ref q12, .null])), (q1, .inl (k1, 6, .inl (fun _ => 0))), (q2, .inl (k2, 6, .inl (fun _ => 0))), (q3, .inl (k3, 6, .inl (fun _ => 0))), (q4, .inr (0, [.ref q5, .ref q6, .int 0])), (q5, .inl (k5, 15, .inr (.inl (fun _ => 0)))), (q6, .inl (k6, 15, .inr (.inl (fun _ => 0)))), (q7, .inr (0, [.ref q8, .ref q9, .int 0])), (q8, .inl (k8, 15, .inr (.inl (fun _ => 0)))), (q9, .inl (k9, 15, .inr (.inl (fun _ => 0)))), (q10, .inl (k10, 31, .inr (.inl (fun _ => 0)))), (q11, .inl (k11, 31, .inr (.inl (fun _ => 0)))), (q12, .inl (k12, 31, .inr (.inr (.inr (.inr (fun i => if i < 31 then some (r i) else none))))))] ++ (List.range 31).map (fun i => (r i, Sum.inl (k1, 6, .inl (fun _ => 0))))) := hD
  refine lv_aload_n hx hb d_C_init_83 rfl (lv_at hl 0 rfl) ?_
  refine lv_bipush (v := 32) hx hb d_C_init_84 (by decide) ?_
  refine va_newa (atype := .int) (ty := .int) (N' := 32) (a0 := (32, .inl (fun _ => 0))) hx hb (hts _ m_37) rfl hK hP hD hS hA (fun _ => rfl) (by decide) (by decide) (by decide) (Nat.le_of_ble_eq_true rfl) (Nat.le_of_ble_eq_true rfl) d_C_init_86 (fun q13 k13 H hK hP hD hS => ?_)
  have hP := va_P.swap hP
  have hD := va_D.swap hD
  have hP : va_P (dC, dI) vwCl ([(h0, .inr (1, [.ref q1, .ref q2, .ref q3, .int 0, .ref q4, .ref q7, .ref q10, .ref q11, .ref q12, .null])), (q1, .inl (k1, 6, .inl (fun _ => 0))), (q2, .inl (k2, 6, .inl (fun _ => 0))), (q3, .inl (k3, 6, .inl (fun _ => 0))), (q4, .inr (0, [.ref q5, .ref q6, .int 0])), (q5, .inl (k5, 15, .inr (.inl (fun _ => 0)))), (q6, .inl (k6, 15, .inr (.inl (fun _ => 0)))), (q7, .inr (0, [.ref q8, .ref q9, .int 0])), (q8, .inl (k8, 15, .inr (.inl (fun _ => 0)))), (q9, .inl (k9, 15, .inr (.inl (fun _ => 0)))), (q10, .inl (k10, 31, .inr (.inl (fun _ => 0)))), (q11, .inl (k11, 31, .inr (.inl (fun _ => 0)))), (q12, .inl (k12, 31, .inr (.inr (.inr (.inr (fun i => if i < 31 then some (r i) else none)))))), (q13, .inl (k13, 32, .inl (fun _ => 0)))] ++ (List.range 31).map (fun i => (r i, Sum.inl (k1, 6, .inl (fun _ => 0))))) H := hP
  have hD : va_D A ([(h0, .inr (1, [.ref q1, .ref q2, .ref q3, .int 0, .ref q4, .ref q7, .ref q10, .ref q11, .ref q12, .null])), (q1, .inl (k1, 6, .inl (fun _ => 0))), (q2, .inl (k2, 6, .inl (fun _ => 0))), (q3, .inl (k3, 6, .inl (fun _ => 0))), (q4, .inr (0, [.ref q5, .ref q6, .int 0])), (q5, .inl (k5, 15, .inr (.inl (fun _ => 0)))), (q6, .inl (k6, 15, .inr (.inl (fun _ => 0)))), (q7, .inr (0, [.ref q8, .ref q9, .int 0])), (q8, .inl (k8, 15, .inr (.inl (fun _ => 0)))), (q9, .inl (k9, 15, .inr (.inl (fun _ => 0)))), (q10, .inl (k10, 31, .inr (.inl (fun _ => 0)))), (q11, .inl (k11, 31, .inr (.inl (fun _ => 0)))), (q12, .inl (k12, 31, .inr (.inr (.inr (.inr (fun i => if i < 31 then some (r i) else none)))))), (q13, .inl (k13, 32, .inl (fun _ => 0)))] ++ (List.range 31).map (fun i => (r i, Sum.inl (k1, 6, .inl (fun _ => 0))))) := hD
  have hK : va_K (dC, dI) vwCl [(k1, .int), (k2, .int), (k3, .int), (k5, .long), (k6, .long), (k8, .long), (k9, .long), (k10, .long), (k11, .long), (k12, .array .int), (k13, .int)] s := hK
  refine W.widen (k := 44) (n := 395) (by omega) (by omega) ?_
  refine va_putF (D := (dC, dI)) (ci := 1) (v := .ref q13) (ty := .array .int) (C := RC) (T := TC) (N := 10) hx hb hts i_C tyC tyC_ok nmC hown hK hP hD hS 0 rfl rfl 9 (by decide) (hts _ m_114) (fun _ h9 => h9) rfl hin rfl (by decide +kernel) rfl rfl (Nat.le_of_ble_eq_true rfl) d_C_init_88 (fun H locs hP hD hS => ?_)
  have hP : va_P (dC, dI) vwCl ([(h0, .inr (1, [.ref q1, .ref q2, .ref q3, .int 0, .ref q4, .ref q7, .ref q10, .ref q11, .ref q12, .ref q13])), (q1, .inl (k1, 6, .inl (fun _ => 0))), (q2, .inl (k2, 6, .inl (fun _ => 0))), (q3, .inl (k3, 6, .inl (fun _ => 0))), (q4, .inr (0, [.ref q5, .ref q6, .int 0])), (q5, .inl (k5, 15, .inr (.inl (fun _ => 0)))), (q6, .inl (k6, 15, .inr (.inl (fun _ => 0)))), (q7, .inr (0, [.ref q8, .ref q9, .int 0])), (q8, .inl (k8, 15, .inr (.inl (fun _ => 0)))), (q9, .inl (k9, 15, .inr (.inl (fun _ => 0)))), (q10, .inl (k10, 31, .inr (.inl (fun _ => 0)))), (q11, .inl (k11, 31, .inr (.inl (fun _ => 0)))), (q12, .inl (k12, 31, .inr (.inr (.inr (.inr (fun i => if i < 31 then some (r i) else none)))))), (q13, .inl (k13, 32, .inl (fun _ => 0)))] ++ (List.range 31).map (fun i => (r i, Sum.inl (k1, 6, .inl (fun _ => 0))))) H := hP
  have hD : va_D A ([(h0, .inr (1, [.ref q1, .ref q2, .ref q3, .int 0, .ref q4, .ref q7, .ref q10, .ref q11, .ref q12, .ref q13])), (q1, .inl (k1, 6, .inl (fun _ => 0))), (q2, .inl (k2, 6, .inl (fun _ => 0))), (q3, .inl (k3, 6, .inl (fun _ => 0))), (q4, .inr (0, [.ref q5, .ref q6, .int 0])), (q5, .inl (k5, 15, .inr (.inl (fun _ => 0)))), (q6, .inl (k6, 15, .inr (.inl (fun _ => 0)))), (q7, .inr (0, [.ref q8, .ref q9, .int 0])), (q8, .inl (k8, 15, .inr (.inl (fun _ => 0)))), (q9, .inl (k9, 15, .inr (.inl (fun _ => 0)))), (q10, .inl (k10, 31, .inr (.inl (fun _ => 0)))), (q11, .inl (k11, 31, .inr (.inl (fun _ => 0)))), (q12, .inl (k12, 31, .inr (.inr (.inr (.inr (fun i => if i < 31 then some (r i) else none)))))), (q13, .inl (k13, 32, .inl (fun _ => 0)))] ++ (List.range 31).map (fun i => (r i, Sum.inl (k1, 6, .inl (fun _ => 0))))) := hD
  obtain ⟨h, k, e0, hPw, hKw, hDw⟩ : ∃ (h : Nat → Nat) (k : Nat → ClassId), h 0 = h0 ∧ va_P (dC, dI) vwCl (WC h k cs0) H ∧ va_K (dC, dI) vwCl (YC k) s ∧ va_D A (WC h k cs0) := ⟨mkH h0 q1 q2 q3 q4 q5 q6 q7 q8 q9 q10 q11 q12 q13 r, mkK k1 k2 k3 k5 k6 k8 k9 k10 k11 k12 k13, rfl, hP, hK.sub [0, 1, 2, 3, 4, 5, 6, 7, 8, 9, 10, 0] rfl, hD⟩
  subst e0
  refine lv_aload_n hx hb d_C_init_91 rfl (lv_at hl 0 rfl) ?_
  have hFc := va_freeA hDw hS hA
  refine va_callv (va_runV (As := []) (rest := []) ⟨hx, hb, hml, hown, hts⟩ (t_C_rebuild l dC dI h k _ cs0 (post := fun u => cInv u 0 (fun _ => 0) (fun _ => 0) (fun _ => 0)) (c_rb cs0_lin (fun st h => h))) (cwV 0 hts (gV m_41 m_43 s_0 m_1 (cw_call m_44)) rfl rfl rfl (by decide +kernel) ⟨Nat.le_of_ble_eq_true rfl, Nat.le_of_ble_eq_true rfl⟩) ⟨pRw_bl, va_recv hKw hPw (ci := 1) (q0 := 0) rfl rfl, fun U hU hW => ⟨rfl, pRw_at hPw hKw hN hDw hU hW⟩⟩ rfl rfl hl.1 rfl (lv_room (Nat.le_of_ble_eq_true rfl)) d_C_init_92 ⟨Nat.le_of_ble_eq_true rfl, Nat.le_of_ble_eq_true rfl⟩) hS (fun q _ h => hFc q h) hFc (fun u t H1 locs ht hvm hw hB hz1 hk1 hS => ?_)
  obtain ⟨hP1, hD1⟩ := hB
  rw [ht] at hP1
  have hD2 := va_D_addr (wc_addr h k cs0 u) hDw
  exact W.vret hx hb hr (fun t2 ht2 hW => ⟨⟨u, rfl, hw, h, k, rfl, by rw [ht2]; exact hP1, va_K.moved hW.alike hKw, hD2⟩, hS.F ht2⟩) hS.2.2 d_C_init_95
