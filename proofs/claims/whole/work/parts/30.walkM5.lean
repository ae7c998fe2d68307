def w_M_cell (st : MS) (post : Int32 → MS → Prop) (p0 : Int32) (p1 : Int32) : Prop := w_M_isCell st (fun r2 u1 => ((¬ r2 = 0 → (w_M_in (fun r4 => ((r4 = 0 → (post 0 (2, (MS.lines u1), (MS.num u1), (MS.cuts u1), (MS.cu u1), (MS.cd u1), (MS.curves u1), (MS.yu u1), (MS.yd u1), (MS.up u1), (MS.down u1), (MS.xu u1), (MS.xd u1), (MS.strip u1), (MS.place u1)))) ∧ (¬ r4 = 0 → ((¬ p1 = 0 → ((¬ p1 = 1 → (post ((2 - ((MS.strip u1) - (MS.strip u1) / 2 * 2)) - ((MS.place u1) - (MS.place u1) / 2 * 2)) (0, (MS.lines u1), (MS.num u1), (MS.cuts u1), (MS.cu u1), (MS.cd u1), (MS.curves u1), (MS.yu u1), (MS.yd u1), (MS.up u1), (MS.down u1), (MS.xu u1), (MS.xd u1), (MS.strip u1), (MS.place u1)))) ∧ (p1 = 1 → (post (MS.place u1) (0, (MS.lines u1), (MS.num u1), (MS.cuts u1), (MS.cu u1), (MS.cd u1), (MS.curves u1), (MS.yu u1), (MS.yd u1), (MS.up u1), (MS.down u1), (MS.xu u1), (MS.xd u1), (MS.strip u1), (MS.place u1)))))) ∧ (p1 = 0 → (post (MS.strip u1) (0, (MS.lines u1), (MS.num u1), (MS.cuts u1), (MS.cu u1), (MS.cd u1), (MS.curves u1), (MS.yu u1), (MS.yd u1), (MS.up u1), (MS.down u1), (MS.xu u1), (MS.xd u1), (MS.strip u1), (MS.place u1)))))))) p1.toInt64 (0 : Int64) (2 : Int64))) ∧ (r2 = 0 → (post 0 (1, (MS.lines u1), (MS.num u1), (MS.cuts u1), (MS.cu u1), (MS.cd u1), (MS.curves u1), (MS.yu u1), (MS.yd u1), (MS.up u1), (MS.down u1), (MS.xu u1), (MS.xd u1), (MS.strip u1), (MS.place u1)))))) p0
set_option maxHeartbeats 4000000 in
set_option maxRecDepth 100000 in
theorem t_M_cell (l : Launch) (dC : Nat → ClassId) (dI : Nat → Nat → Nat) (h : Nat → Nat) (k : Nat → ClassId) (sz : Nat) (st : MS) (p0 : Int32) (p1 : Int32) {post : Int32 → MS → Prop} (hw : w_M_cell st post p0 p1) : Met l y_M_cell (Cond.code y_M_cell prog_4_method_22_code 3 (some .int) :: cw) ({ frames := 5, cells := 0, slots := 0, locals := 118 } : Room) (va_Pc [.ref (h 0), .int p0, .int p1] (pRw (dC, dI) (WM h k st) (YM k) sz)) (va_Qi post (fun u t => va_P (dC, dI) vwCl (WM h k u) t.heap ∧ va_D (va_A (WM h k st) sz) (WM h k u)) (va_A (WM h k st) sz)) 0 0 (va_A (WM h k st) sz) := by
  refine Met.ofW (cc := prog_4_method_22_code) (maxL := 3) (ret := (some .int)) (by decide) rfl ?_
  intro p e s m args below meth c s₁ B hml hv
  obtain ⟨rfl, hsz, hP, hK, hN, hD0⟩ := hv
  have hx := B.exec
  have hb := B.bytes
  have hr := B.returns
  have hts : ∀ w ∈ cw, w.before _ s = true := fun w h => atoms_spec (ws := (Cond.code y_M_cell prog_4_method_22_code 3 (some .int) :: cw)) B.pre w (List.mem_cons_of_mem _ h)
  have hown : s.vm.findClass RM = some m.cls := findClass_of_methodNamed B.named
  have hlocks := B.notSynchronized
  have C0 : cxt p s m _ meth c prog_4_method_22_code 3 RM (some .int) := ⟨hx, hb, hr, hml, hown, hts, hlocks⟩
  subst hsz
  have hD := hD0.self (sz := s.heap.size)
  generalize hAe : va_A (WM h k st) s.heap.size = A at hD ⊢
  have hA : ∀ q : Nat, s.heap.size ≤ q → A q := fun q h => by rw [← hAe]; exact Or.inr h
  have hS : va_S A s.heap s.heap [] := va_S.rf
  have hl := lv_entry ([.ref (h 0), .int p0, .int p1]) (n := 3) (Nat.le_of_ble_eq_true rfl)
  rw [lg_entry_eq]
  generalize (lg_sl ([.ref (h 0), .int p0, .int p1]) ++ List.replicate (3 - (lg_sl ([.ref (h 0), .int p0, .int p1])).length) Slot.unset).toArray = ls at hl ⊢
  have hl : lv_has ls 3 [(0, .ref (h 0)), (1, .int p0), (2, .int p1)] := hl
  unfold w_M_cell at hw
  refine lv_aload_n hx hb d_M_cell_0 rfl (lv_at hl 0 rfl) ?_
  refine lv_aload_n hx hb d_M_cell_1 rfl (lv_at hl 0 rfl) ?_
  refine lv_iload_n hx hb d_M_cell_2 rfl (lv_at hl 1 rfl) ?_
  have hFc := va_freeA hD hS hA
  refine va_calli (va_runV (As := [.int p0]) (rest := [.ref (h 0)]) ⟨hx, hb, hml, hown, hts⟩ (t_M_isCell l dC dI h k _ st p0 hw) (cwV 1 hts (gV m_496 m_498 s_24 m_5 (cw_call m_499)) rfl rfl rfl (by decide +kernel) ⟨Nat.le_of_ble_eq_true rfl, Nat.le_of_ble_eq_true rfl⟩) ⟨pRw_bl, va_recv hK hP (ci := 2) (q0 := 0) rfl rfl, fun U hU hW => ⟨rfl, pRw_at hP hK hN hD hU hW⟩⟩ rfl rfl hl.1 rfl (lv_room (Nat.le_of_ble_eq_true rfl)) d_M_cell_3 ⟨Nat.le_of_ble_eq_true rfl, Nat.le_of_ble_eq_true rfl⟩) hS (fun q _ h => hFc q h) hFc (fun r2 u1 t H1 locs ht hvm hw hB hz1 hk1 hS => ?_)
  obtain ⟨hP1, hD1⟩ := hB
  rw [ht] at hP1
  have hP := hP1
  have hD := hD1.weaken (fun _ q _ h => hFc q.1 h)
  generalize H1 = H at hP hS ⊢
  have hP : va_P (dC, dI) vwCl (WM h k u1) H := hP
  have hD : va_D A (WM h k u1) := hD
  refine lv_if_ne (tgt := 13) hx hb d_M_cell_6 (by decide) (fun c3 => ?_) (fun c3 => ?_)
  · skip
    have hw := hw.1 c3
    refine lv_iload_n hx hb d_M_cell_13 rfl (lv_at hl 2 rfl) ?_
    refine lv_i2l (v := p1.toInt64) hx hb d_M_cell_14 rfl ?_
    refine lv_lconst (v := 0) hx hb d_M_cell_15 (by decide) ?_
    refine lv_ldc2 (v := 2) hx hb hown (hts _ m_475) d_M_cell_16 ?_
    refine vp_callSi (va_Run.run (va_runS (As := [.long p1.toInt64, .long 0, .long 2]) (rest := [.ref (h 0)]) ⟨hx, hb, hml, hown, hts⟩ (t_M_in l p1.toInt64 (0 : Int64) (2 : Int64) hw) (va_cwS 3 hts (gS m_432 m_433 m_5 (cw_call m_434)) rfl rfl rfl (by decide +kernel) ⟨Nat.le_of_ble_eq_true rfl, Nat.le_of_ble_eq_true rfl⟩) ⟨pSt_bl, fun U hU hW => ⟨rfl, trivial⟩⟩ rfl rfl hl.1 rfl (lv_room (Nat.le_of_ble_eq_true rfl)) d_M_cell_19 ⟨Nat.le_of_ble_eq_true rfl, Nat.le_of_ble_eq_true rfl⟩)) (fun r4 hw => ?_)
    refine lv_if_eq (tgt := 29) hx hb d_M_cell_22 (by decide) (fun c5 => ?_) (fun c5 => ?_)
    · skip
      have hw := hw.1 c5
      refine lv_iconst (v := 2) hx hb d_M_cell_29 (by decide) ?_
      refine va_put (D := (dC, dI)) (ci := 2) (v := .int 2) (ty := .int) (C := RM) (T := TM) (N := 15) hx hb hts i_M tyM tyM_ok nmM hown hK hP hD hS 0 rfl rfl 0 (by decide) (hts _ m_376) (fun _ h9 => h9) rfl (by decide +kernel) rfl rfl (Nat.le_of_ble_eq_true rfl) d_M_cell_30 (fun H locs hP hD hS => ?_)
      have hP : va_P (dC, dI) vwCl [(h 0, .inr (2, [.int 2, .int (MS.lines u1), .ref (h 1), .int (MS.cuts u1), .ref (h 2), .ref (h 3), .int (MS.curves u1), .ref (h 4), .ref (h 5), .long (MS.up u1), .long (MS.down u1), .long (MS.xu u1), .long (MS.xd u1), .int (MS.strip u1), .int (MS.place u1)])), (h 1, .inl (k 1, 18, .inl (MS.num u1))), (h 2, .inl (k 2, 24, .inr (.inl (MS.cu u1)))), (h 3, .inl (k 3, 24, .inr (.inl (MS.cd u1)))), (h 4, .inl (k 4, 6, .inr (.inl (MS.yu u1)))), (h 5, .inl (k 5, 6, .inr (.inl (MS.yd u1))))] H := hP
      have hD : va_D A [(h 0, .inr (2, [.int 2, .int (MS.lines u1), .ref (h 1), .int (MS.cuts u1), .ref (h 2), .ref (h 3), .int (MS.curves u1), .ref (h 4), .ref (h 5), .long (MS.up u1), .long (MS.down u1), .long (MS.xu u1), .long (MS.xd u1), .int (MS.strip u1), .int (MS.place u1)])), (h 1, .inl (k 1, 18, .inl (MS.num u1))), (h 2, .inl (k 2, 24, .inr (.inl (MS.cu u1)))), (h 3, .inl (k 3, 24, .inr (.inl (MS.cd u1)))), (h 4, .inl (k 4, 6, .inr (.inl (MS.yu u1)))), (h 5, .inl (k 5, 6, .inr (.inl (MS.yd u1))))] := hD
      refine lv_aload_n hx hb d_M_cell_33 rfl (lv_at hl 0 rfl) ?_
      refine va_get (D := (dC, dI)) (ci := 2) (v := .int 2) (C := RM) (T := TM) (N := 15) hx hb hts i_M hown hK hP 0 rfl rfl 0 (by decide) (hts _ m_376) (fun _ h9 => h9) rfl d_M_cell_34 ?_
      refine lv_if_le (tgt := 42) hx hb d_M_cell_37 (by decide) (fun cz => absurd cz (by decide)) (fun _ => ?_)
      refine lv_iconst (v := 0) hx hb d_M_cell_40 (by decide) ?_
      have hP : va_P (dC, dI) vwCl (WM h k (2, (MS.lines u1), (MS.num u1), (MS.cuts u1), (MS.cu u1), (MS.cd u1), (MS.curves u1), (MS.yu u1), (MS.yd u1), (MS.up u1), (MS.down u1), (MS.xu u1), (MS.xd u1), (MS.strip u1), (MS.place u1))) _ := hP
      have hD : va_D A (WM h k (2, (MS.lines u1), (MS.num u1), (MS.cuts u1), (MS.cu u1), (MS.cd u1), (MS.curves u1), (MS.yu u1), (MS.yd u1), (MS.up u1), (MS.down u1), (MS.xu u1), (MS.xd u1), (MS.strip u1), (MS.place u1))) := hD
      exact W.iret (v := 0) hx hb hr (fun t ht hW => ⟨⟨0, (2, (MS.lines u1), (MS.num u1), (MS.cuts u1), (MS.cu u1), (MS.cd u1), (MS.curves u1), (MS.yu u1), (MS.yd u1), (MS.up u1), (MS.down u1), (MS.xu u1), (MS.xd u1), (MS.strip u1), (MS.place u1)), rfl, hw, by rw [ht]; exact hP, hD⟩, hS.F ht⟩) hS.2.2 d_M_cell_41
    · skip
      have hw := hw.2 c5
      refine lv_iconst (v := 0) hx hb d_M_cell_25 (by decide) ?_
      refine lv_goto (tgt := 30) hx hb d_M_cell_26 (by decide) ?_
      refine va_put (D := (dC, dI)) (ci := 2) (v := .int 0) (ty := .int) (C := RM) (T := TM) (N := 15) hx hb hts i_M tyM tyM_ok nmM hown hK hP hD hS 0 rfl rfl 0 (by decide) (hts _ m_376) (fun _ h9 => h9) rfl (by decide +kernel) rfl rfl (Nat.le_of_ble_eq_true rfl) d_M_cell_30 (fun H locs hP hD hS => ?_)
      have hP : va_P (dC, dI) vwCl [(h 0, .inr (2, [.int 0, .int (MS.lines u1), .ref (h 1), .int (MS.cuts u1), .ref (h 2), .ref (h 3), .int (MS.curves u1), .ref (h 4), .ref (h 5), .long (MS.up u1), .long (MS.down u1), .long (MS.xu u1), .long (MS.xd u1), .int (MS.strip u1), .int (MS.place u1)])), (h 1, .inl (k 1, 18, .inl (MS.num u1))), (h 2, .inl (k 2, 24, .inr (.inl (MS.cu u1)))), (h 3, .inl (k 3, 24, .inr (.inl (MS.cd u1)))), (h 4, .inl (k 4, 6, .inr (.inl (MS.yu u1)))), (h 5, .inl (k 5, 6, .inr (.inl (MS.yd u1))))] H := hP
      have hD : va_D A [(h 0, .inr (2, [.int 0, .int (MS.lines u1), .ref (h 1), .int (MS.cuts u1), .ref (h 2), .ref (h 3), .int (MS.curves u1), .ref (h 4), .ref (h 5), .long (MS.up u1), .long (MS.down u1), .long (MS.xu u1), .long (MS.xd u1), .int (MS.strip u1), .int (MS.place u1)])), (h 1, .inl (k 1, 18, .inl (MS.num u1))), (h 2, .inl (k 2, 24, .inr (.inl (MS.cu u1)))), (h 3, .inl (k 3, 24, .inr (.inl (MS.cd u1)))), (h 4, .inl (k 4, 6, .inr (.inl (MS.yu u1)))), (h 5, .inl (k 5, 6, .inr (.inl (MS.yd u1))))] := hD
      refine lv_aload_n hx hb d_M_cell_33 rfl (lv_at hl 0 rfl) ?_
      refine va_get (D := (dC, dI)) (ci := 2) (v := .int 0) (C := RM) (T := TM) (N := 15) hx hb hts i_M hown hK hP 0 rfl rfl 0 (by decide) (hts _ m_376) (fun _ h9 => h9) rfl d_M_cell_34 ?_
      refine lv_if_le (tgt := 42) hx hb d_M_cell_37 (by decide) (fun _ => ?_) (fun cz => absurd (by decide) cz)
      refine lv_iload_n hx hb d_M_cell_42 rfl (lv_at hl 2 rfl) ?_
      refine lv_if_ne (tgt := 53) hx hb d_M_cell_43 (by decide) (fun c6 => ?_) (fun c6 => ?_)
      · skip
        have hw := hw.1 c6
        refine lv_iload_n hx hb d_M_cell_53 rfl (lv_at hl 2 rfl) ?_
        refine lv_iconst (v := 1) hx hb d_M_cell_54 (by decide) ?_
        refine lv_icmp_ne (tgt := 65) hx hb d_M_cell_55 (by decide) (fun c7 => ?_) (fun c7 => ?_)
        · skip
          have hw := hw.1 c7
          refine lv_iconst (v := 2) hx hb d_M_cell_65 (by decide) ?_
          refine lv_aload_n hx hb d_M_cell_66 rfl (lv_at hl 0 rfl) ?_
          refine va_get (D := (dC, dI)) (ci := 2) (v := .int (MS.strip u1)) (C := RM) (T := TM) (N := 15) hx hb hts i_M hown hK hP 0 rfl rfl 13 (by decide) (hts _ m_389) (fun _ h9 => h9) rfl d_M_cell_67 ?_
          refine lv_iconst (v := 2) hx hb d_M_cell_70 (by decide) ?_
          refine lv_irem hx hb d_M_cell_71 (by decide) ?_
          refine lv_isub hx hb d_M_cell_72 ?_
          refine lv_aload_n hx hb d_M_cell_73 rfl (lv_at hl 0 rfl) ?_
          refine va_get (D := (dC, dI)) (ci := 2) (v := .int (MS.place u1)) (C := RM) (T := TM) (N := 15) hx hb hts i_M hown hK hP 0 rfl rfl 14 (by decide) (hts _ m_390) (fun _ h9 => h9) rfl d_M_cell_74 ?_
          refine lv_iconst (v := 2) hx hb d_M_cell_77 (by decide) ?_
          refine lv_irem hx hb d_M_cell_78 (by decide) ?_
          refine lv_isub hx hb d_M_cell_79 ?_
          have hP : va_P (dC, dI) vwCl (WM h k (0, (MS.lines u1), (MS.num u1), (MS.cuts u1), (MS.cu u1), (MS.cd u1), (MS.curves u1), (MS.yu u1), (MS.yd u1), (MS.up u1), (MS.down u1), (MS.xu u1), (MS.xd u1), (MS.strip u1), (MS.place u1))) _ := hP
          have hD : va_D A (WM h k (0, (MS.lines u1), (MS.num u1), (MS.cuts u1), (MS.cu u1), (MS.cd u1), (MS.curves u1), (MS.yu u1), (MS.yd u1), (MS.up u1), (MS.down u1), (MS.xu u1), (MS.xd u1), (MS.strip u1), (MS.place u1))) := hD
          exact W.iret (v := ((2 - ((MS.strip u1) - (MS.strip u1) / 2 * 2)) - ((MS.place u1) - (MS.place u1) / 2 * 2))) hx hb hr (fun t ht hW => ⟨⟨((2 - ((MS.strip u1) - (MS.strip u1) / 2 * 2)) - ((MS.place u1) - (MS.place u1) / 2 * 2)), (0, (MS.lines u1), (MS.num u1), (MS.cuts u1), (MS.cu u1), (MS.cd u1), (MS.curves u1), (MS.yu u1), (MS.yd u1), (MS.up u1), (MS.down u1), (MS.xu u1), (MS.xd u1), (MS.strip u1), (MS.place u1)), rfl, hw, by rw [ht]; exact hP, hD⟩, hS.F ht⟩) hS.2.2 d_M_cell_80
        · skip
          have hw := hw.2 c7
          refine lv_aload_n hx hb d_M_cell_58 rfl (lv_at hl 0 rfl) ?_
          refine va_get (D := (dC, dI)) (ci := 2) (v := .int (MS.place u1)) (C := RM) (T := TM) (N := 15) hx hb hts i_M hown hK hP 0 rfl rfl 14 (by decide) (hts _ m_390) (fun _ h9 => h9) rfl d_M_cell_59 ?_
          refine lv_goto (tgt := 80) hx hb d_M_cell_62 (by decide) ?_
          have hP : va_P (dC, dI) vwCl (WM h k (0, (MS.lines u1), (MS.num u1), (MS.cuts u1), (MS.cu u1), (MS.cd u1), (MS.curves u1), (MS.yu u1), (MS.yd u1), (MS.up u1), (MS.down u1), (MS.xu u1), (MS.xd u1), (MS.strip u1), (MS.place u1))) _ := hP
          have hD : va_D A (WM h k (0, (MS.lines u1), (MS.num u1), (MS.cuts u1), (MS.cu u1), (MS.cd u1), (MS.curves u1), (MS.yu u1), (MS.yd u1), (MS.up u1), (MS.down u1), (MS.xu u1), (MS.xd u1), (MS.strip u1), (MS.place u1))) := hD
          exact W.iret (v := (MS.place u1)) hx hb hr (fun t ht hW => ⟨⟨(MS.place u1), (0, (MS.lines u1), (MS.num u1), (MS.cuts u1), (MS.cu u1), (MS.cd u1), (MS.curves u1), (MS.yu u1), (MS.yd u1), (MS.up u1), (MS.down u1), (MS.xu u1), (MS.xd u1), (MS.strip u1), (MS.place u1)), rfl, hw, by rw [ht]; exact hP, hD⟩, hS.F ht⟩) hS.2.2 d_M_cell_80
      · skip
        have hw := hw.2 c6
        refine lv_aload_n hx hb d_M_cell_46 rfl (lv_at hl 0 rfl) ?_
        refine va_get (D := (dC, dI)) (ci := 2) (v := .int (MS.strip u1)) (C := RM) (T := TM) (N := 15) hx hb hts i_M hown hK hP 0 rfl rfl 13 (by decide) (hts _ m_389) (fun _ h9 => h9) rfl d_M_cell_47 ?_
        refine lv_goto (tgt := 80) hx hb d_M_cell_50 (by decide) ?_
        have hP : va_P (dC, dI) vwCl (WM h k (0, (MS.lines u1), (MS.num u1), (MS.cuts u1), (MS.cu u1), (MS.cd u1), (MS.curves u1), (MS.yu u1), (MS.yd u1), (MS.up u1), (MS.down u1), (MS.xu u1), (MS.xd u1), (MS.strip u1), (MS.place u1))) _ := hP
        have hD : va_D A (WM h k (0, (MS.lines u1), (MS.num u1), (MS.cuts u1), (MS.cu u1), (MS.cd u1), (MS.curves u1), (MS.yu u1), (MS.yd u1), (MS.up u1), (MS.down u1), (MS.xu u1), (MS.xd u1), (MS.strip u1), (MS.place u1))) := hD
        exact W.iret (v := (MS.strip u1)) hx hb hr (fun t ht hW => ⟨⟨(MS.strip u1), (0, (MS.lines u1), (MS.num u1), (MS.cuts u1), (MS.cu u1), (MS.cd u1), (MS.curves u1), (MS.yu u1), (MS.yd u1), (MS.up u1), (MS.down u1), (MS.xu u1), (MS.xd u1), (MS.strip u1), (MS.place u1)), rfl, hw, by rw [ht]; exact hP, hD⟩, hS.F ht⟩) hS.2.2 d_M_cell_80
  · skip
    have hw := hw.2 c3
    refine lv_iconst (v := 1) hx hb d_M_cell_9 (by decide) ?_
    refine lv_goto (tgt := 30) hx hb d_M_cell_10 (by decide) ?_
    refine va_put (D := (dC, dI)) (ci := 2) (v := .int 1) (ty := .int) (C := RM) (T := TM) (N := 15) hx hb hts i_M tyM tyM_ok nmM hown hK hP hD hS 0 rfl rfl 0 (by decide) (hts _ m_376) (fun _ h9 => h9) rfl (by decide +kernel) rfl rfl (Nat.le_of_ble_eq_true rfl) d_M_cell_30 (fun H locs hP hD hS => ?_)
    have hP : va_P (dC, dI) vwCl [(h 0, .inr (2, [.int 1, .int (MS.lines u1), .ref (h 1), .int (MS.cuts u1), .ref (h 2), .ref (h 3), .int (MS.curves u1), .ref (h 4), .ref (h 5), .long (MS.up u1), .long (MS.down u1), .long (MS.xu u1), .long (MS.xd u1), .int (MS.strip u1), .int (MS.place u1)])), (h 1, .inl (k 1, 18, .inl (MS.num u1))), (h 2, .inl (k 2, 24, .inr (.inl (MS.cu u1)))), (h 3, .inl (k 3, 24, .inr (.inl (MS.cd u1)))), (h 4, .inl (k 4, 6, .inr (.inl (MS.yu u1)))), (h 5, .inl (k 5, 6, .inr (.inl (MS.yd u1))))] H := hP
    have hD : va_D A [(h 0, .inr (2, [.int 1, .int (MS.lines u1), .ref (h 1), .int (MS.cuts u1), .ref (h 2), .ref (h 3), .int (MS.curves u1), .ref (h 4), .ref (h 5), .long (MS.up u1), .long (MS.down u1), .long (MS.xu u1), .long (MS.xd u1), .int (MS.strip u1), .int (MS.place u1)])), (h 1, .inl (k 1, 18, .inl (MS.num u1))), (h 2, .inl (k 2, 24, .inr (.inl (MS.cu u1)))), (h 3, .inl (k 3, 24, .inr (.inl (MS.cd u1)))), (h 4, .inl (k 4, 6, .inr (.inl (MS.yu u1)))), (h 5, .inl (k 5, 6, .inr (.inl (MS.yd u1))))] := hD
    refine lv_aload_n hx hb d_M_cell_33 rfl (lv_at hl 0 rfl) ?_
    refine va_get (D := (dC, dI)) (ci := 2) (v := .int 1) (C := RM) (T := TM) (N := 15) hx hb hts i_M hown hK hP 0 rfl rfl 0 (by decide) (hts _ m_376) (fun _ h9 => h9) rfl d_M_cell_34 ?_
    refine lv_if_le (tgt := 42) hx hb d_M_cell_37 (by decide) (fun cz => absurd cz (by decide)) (fun _ => ?_)
    refine lv_iconst (v := 0) hx hb d_M_cell_40 (by decide) ?_
    have hP : va_P (dC, dI) vwCl (WM h k (1, (MS.lines u1), (MS.num u1), (MS.cuts u1), (MS.cu u1), (MS.cd u1), (MS.curves u1), (MS.yu u1), (MS.yd u1), (MS.up u1), (MS.down u1), (MS.xu u1), (MS.xd u1), (MS.strip u1), (MS.place u1))) _ := hP
    have hD : va_D A (WM h k (1, (MS.lines u1), (MS.num u1), (MS.cuts u1), (MS.cu u1), (MS.cd u1), (MS.curves u1), (MS.yu u1), (MS.yd u1), (MS.up u1), (MS.down u1), (MS.xu u1), (MS.xd u1), (MS.strip u1), (MS.place u1))) := hD
    exact W.iret (v := 0) hx hb hr (fun t ht hW => ⟨⟨0, (1, (MS.lines u1), (MS.num u1), (MS.cuts u1), (MS.cu u1), (MS.cd u1), (MS.curves u1), (MS.yu u1), (MS.yd u1), (MS.up u1), (MS.down u1), (MS.xu u1), (MS.xd u1), (MS.strip u1), (MS.place u1)), rfl, hw, by rw [ht]; exact hP, hD⟩, hS.F ht⟩) hS.2.2 d_M_cell_41
def w_M_sample (st : MS) (post : Int64 → MS → Prop) (p0 : Int32) (p1 : Int32) (p2 : Int32) : Prop := w_M_isCell st (fun r2 u1 => ((¬ r2 = 0 → (w_M_in (fun r4 => ((r4 = 0 → (post 0 (2, (MS.lines u1), (MS.num u1), (MS.cuts u1), (MS.cu u1), (MS.cd u1), (MS.curves u1), (MS.yu u1), (MS.yd u1), (MS.up u1), (MS.down u1), (MS.xu u1), (MS.xd u1), (MS.strip u1), (MS.place u1)))) ∧ (¬ r4 = 0 → (w_M_in (fun r6 => ((r6 = 0 → (post 0 (2, (MS.lines u1), (MS.num u1), (MS.cuts u1), (MS.cu u1), (MS.cd u1), (MS.curves u1), (MS.yu u1), (MS.yd u1), (MS.up u1), (MS.down u1), (MS.xu u1), (MS.xd u1), (MS.strip u1), (MS.place u1)))) ∧ (¬ r6 = 0 → ((¬ p1 = 0 → (w_M_sampleY (0, (MS.lines u1), (MS.num u1), (MS.cuts u1), (MS.cu u1), (MS.cd u1), (MS.curves u1), (MS.yu u1), (MS.yd u1), (MS.up u1), (MS.down u1), (MS.xu u1), (MS.xd u1), (MS.strip u1), (MS.place u1)) (fun u9 => (w_M_told u9 (fun r10 => (post r10 u9)) p2)) )) ∧ (p1 = 0 → (w_M_lowest (0, (MS.lines u1), (MS.num u1), (MS.cuts u1), (MS.cu u1), (MS.cd u1), (MS.curves u1), (MS.yu u1), (MS.yd u1), (MS.up u1), (MS.down u1), (MS.xu u1), (MS.xd u1), (MS.strip u1), (MS.place u1)) (fun u11 => (w_M_told u11 (fun r12 => (post r12 u11)) p2)) (MS.xu u1) (MS.xd u1))))))) p2.toInt64 (0 : Int64) (1 : Int64))))) p1.toInt64 (0 : Int64) (1 : Int64))) ∧ (r2 = 0 → (post 0 (1, (MS.lines u1), (MS.num u1), (MS.cuts u1), (MS.cu u1), (MS.cd u1), (MS.curves u1), (MS.yu u1), (MS.yd u1), (MS.up u1), (MS.down u1), (MS.xu u1), (MS.xd u1), (MS.strip u1), (MS.place u1)))))) p0
set_option maxHeartbeats 4000000 in
set_option maxRecDepth 100000 in
theorem t_M_sample (l : Launch) (dC : Nat → ClassId) (dI : Nat → Nat → Nat) (h : Nat → Nat) (k : Nat → ClassId) (sz : Nat) (st : MS) (p0 : Int32) (p1 : Int32) (p2 : Int32) {post : Int64 → MS → Prop} (hw : w_M_sample st post p0 p1 p2) : Met l y_M_sample (Cond.code y_M_sample prog_4_method_24_code 4 (some .long) :: cw) ({ frames := 5, cells := 0, slots := 0, locals := 118 } : Room) (va_Pc [.ref (h 0), .int p0, .int p1, .int p2] (pRw (dC, dI) (WM h k st) (YM k) sz)) (va_Ql post (fun u t => va_P (dC, dI) vwCl (WM h k u) t.heap ∧ va_D (va_A (WM h k st) sz) (WM h k u)) (va_A (WM h k st) sz)) 0 0 (va_A (WM h k st) sz) := by
  refine Met.ofW (cc := prog_4_method_24_code) (maxL := 4) (ret := (some .long)) (by decide) rfl ?_
  intro p e s m args below meth c s₁ B hml hv
  obtain ⟨rfl, hsz, hP, hK, hN, hD0⟩ := hv
  have hx := B.exec
  have hb := B.bytes
  have hr := B.returns
  have hts : ∀ w ∈ cw, w.before _ s = true := fun w h => atoms_spec (ws := (Cond.code y_M_sample prog_4_method_24_code 4 (some .long) :: cw)) B.pre w (List.mem_cons_of_mem _ h)
  have hown : s.vm.findClass RM = some m.cls := findClass_of_methodNamed B.named
  have hlocks := B.notSynchronized
  have C0 : cxt p s m _ meth c prog_4_method_24_code 4 RM (some .long) := ⟨hx, hb, hr, hml, hown, hts, hlocks⟩
  subst hsz
  have hD := hD0.self (sz := s.heap.size)
  generalize hAe : va_A (WM h k st) s.heap.size = A at hD ⊢
  have hA : ∀ q : Nat, s.heap.size ≤ q → A q := fun q h => by rw [← hAe]; exact Or.inr h
  have hS : va_S A s.heap s.heap [] := va_S.rf
  have hl := lv_entry ([.ref (h 0), .int p0, .int p1, .int p2]) (n := 4) (Nat.le_of_ble_eq_true rfl)
  rw [lg_entry_eq]
  generalize (lg_sl ([.ref (h 0), .int p0, .int p1, .int p2]) ++ List.replicate (4 - (lg_sl ([.ref (h 0), .int p0, .int p1, .int p2])).length) Slot.unset).toArray = ls at hl ⊢
  have hl : lv_has ls 4 [(0, .ref (h 0)), (1, .int p0), (2, .int p1), (3, .int p2)] := hl
  unfold w_M_sample at hw
  refine lv_aload_n hx hb d_M_sample_0 rfl (lv_at hl 0 rfl) ?_
  refine lv_aload_n hx hb d_M_sample_1 rfl (lv_at hl 0 rfl) ?_
  refine lv_iload_n hx hb d_M_sample_2 rfl (lv_at hl 1 rfl) ?_
  have hFc := va_freeA hD hS hA
  refine va_calli (va_runV (As := [.int p0]) (rest := [.ref (h 0)]) ⟨hx, hb, hml, hown, hts⟩ (t_M_isCell l dC dI h k _ st p0 hw) (cwV 1 hts (gV m_496 m_498 s_24 m_5 (cw_call m_499)) rfl rfl rfl (by decide +kernel) ⟨Nat.le_of_ble_eq_true rfl, Nat.le_of_ble_eq_true rfl⟩) ⟨pRw_bl, va_recv hK hP (ci := 2) (q0 := 0) rfl rfl, fun U hU hW => ⟨rfl, pRw_at hP hK hN hD hU hW⟩⟩ rfl rfl hl.1 rfl (lv_room (Nat.le_of_ble_eq_true rfl)) d_M_sample_3 ⟨Nat.le_of_ble_eq_true rfl, Nat.le_of_ble_eq_true rfl⟩) hS (fun q _ h => hFc q h) hFc (fun r2 u1 t H1 locs ht hvm hw hB hz1 hk1 hS => ?_)
  obtain ⟨hP1, hD1⟩ := hB
  rw [ht] at hP1
  have hP := hP1
  have hD := hD1.weaken (fun _ q _ h => hFc q.1 h)
  generalize H1 = H at hP hS ⊢
  have hP : va_P (dC, dI) vwCl (WM h k u1) H := hP
  have hD : va_D A (WM h k u1) := hD
  refine lv_if_ne (tgt := 13) hx hb d_M_sample_6 (by decide) (fun c3 => ?_) (fun c3 => ?_)
  · skip
    have hw := hw.1 c3
    refine lv_iload_n hx hb d_M_sample_13 rfl (lv_at hl 2 rfl) ?_
    refine lv_i2l (v := p1.toInt64) hx hb d_M_sample_14 rfl ?_
    refine lv_lconst (v := 0) hx hb d_M_sample_15 (by decide) ?_
    refine lv_lconst (v := 1) hx hb d_M_sample_16 (by decide) ?_
    refine vp_callSi (va_Run.run (va_runS (As := [.long p1.toInt64, .long 0, .long 1]) (rest := [.ref (h 0)]) ⟨hx, hb, hml, hown, hts⟩ (t_M_in l p1.toInt64 (0 : Int64) (1 : Int64) hw) (va_cwS 3 hts (gS m_432 m_433 m_5 (cw_call m_434)) rfl rfl rfl (by decide +kernel) ⟨Nat.le_of_ble_eq_true rfl, Nat.le_of_ble_eq_true rfl⟩) ⟨pSt_bl, fun U hU hW => ⟨rfl, trivial⟩⟩ rfl rfl hl.1 rfl (lv_room (Nat.le_of_ble_eq_true rfl)) d_M_sample_17 ⟨Nat.le_of_ble_eq_true rfl, Nat.le_of_ble_eq_true rfl⟩)) (fun r4 hw => ?_)
    refine lv_if_eq (tgt := 37) hx hb d_M_sample_20 (by decide) (fun c5 => ?_) (fun c5 => ?_)
    · skip
      have hw := hw.1 c5
      refine lv_iconst (v := 2) hx hb d_M_sample_37 (by decide) ?_
      refine va_put (D := (dC, dI)) (ci := 2) (v := .int 2) (ty := .int) (C := RM) (T := TM) (N := 15) hx hb hts i_M tyM tyM_ok nmM hown hK hP hD hS 0 rfl rfl 0 (by decide) (hts _ m_376) (fun _ h9 => h9) rfl (by decide +kernel) rfl rfl (Nat.le_of_ble_eq_true rfl) d_M_sample_38 (fun H locs hP hD hS => ?_)
      have hP : va_P (dC, dI) vwCl [(h 0, .inr (2, [.int 2, .int (MS.lines u1), .ref (h 1), .int (MS.cuts u1), .ref (h 2), .ref (h 3), .int (MS.curves u1), .ref (h 4), .ref (h 5), .long (MS.up u1), .long (MS.down u1), .long (MS.xu u1), .long (MS.xd u1), .int (MS.strip u1), .int (MS.place u1)])), (h 1, .inl (k 1, 18, .inl (MS.num u1))), (h 2, .inl (k 2, 24, .inr (.inl (MS.cu u1)))), (h 3, .inl (k 3, 24, .inr (.inl (MS.cd u1)))), (h 4, .inl (k 4, 6, .inr (.inl (MS.yu u1)))), (h 5, .inl (k 5, 6, .inr (.inl (MS.yd u1))))] H := hP
      have hD : va_D A [(h 0, .inr (2, [.int 2, .int (MS.lines u1), .ref (h 1), .int (MS.cuts u1), .ref (h 2), .ref (h 3), .int (MS.curves u1), .ref (h 4), .ref (h 5), .long (MS.up u1), .long (MS.down u1), .long (MS.xu u1), .long (MS.xd u1), .int (MS.strip u1), .int (MS.place u1)])), (h 1, .inl (k 1, 18, .inl (MS.num u1))), (h 2, .inl (k 2, 24, .inr (.inl (MS.cu u1)))), (h 3, .inl (k 3, 24, .inr (.inl (MS.cd u1)))), (h 4, .inl (k 4, 6, .inr (.inl (MS.yu u1)))), (h 5, .inl (k 5, 6, .inr (.inl (MS.yd u1))))] := hD
      refine lv_aload_n hx hb d_M_sample_41 rfl (lv_at hl 0 rfl) ?_
      refine va_get (D := (dC, dI)) (ci := 2) (v := .int 2) (C := RM) (T := TM) (N := 15) hx hb hts i_M hown hK hP 0 rfl rfl 0 (by decide) (hts _ m_376) (fun _ h9 => h9) rfl d_M_sample_42 ?_
      refine lv_if_le (tgt := 50) hx hb d_M_sample_45 (by decide) (fun cz => absurd cz (by decide)) (fun _ => ?_)
      refine lv_lconst (v := 0) hx hb d_M_sample_48 (by decide) ?_
      have hP : va_P (dC, dI) vwCl (WM h k (2, (MS.lines u1), (MS.num u1), (MS.cuts u1), (MS.cu u1), (MS.cd u1), (MS.curves u1), (MS.yu u1), (MS.yd u1), (MS.up u1), (MS.down u1), (MS.xu u1), (MS.xd u1), (MS.strip u1), (MS.place u1))) _ := hP
      have hD : va_D A (WM h k (2, (MS.lines u1), (MS.num u1), (MS.cuts u1), (MS.cu u1), (MS.cd u1), (MS.curves u1), (MS.yu u1), (MS.yd u1), (MS.up u1), (MS.down u1), (MS.xu u1), (MS.xd u1), (MS.strip u1), (MS.place u1))) := hD
      exact W.lret (v := 0) hx hb hr (fun t ht hW => ⟨⟨0, (2, (MS.lines u1), (MS.num u1), (MS.cuts u1), (MS.cu u1), (MS.cd u1), (MS.curves u1), (MS.yu u1), (MS.yd u1), (MS.up u1), (MS.down u1), (MS.xu u1), (MS.xd u1), (MS.strip u1), (MS.place u1)), rfl, hw, by rw [ht]; exact hP, hD⟩, hS.F ht⟩) hS.2.2 d_M_sample_49
    · skip
      have hw := hw.2 c5
      refine lv_iload_n hx hb d_M_sample_23 rfl (lv_at hl 3 rfl) ?_
      refine lv_i2l (v := p2.toInt64) hx hb d_M_sample_24 rfl ?_
      refine lv_lconst (v := 0) hx hb d_M_sample_25 (by decide) ?_
      refine lv_lconst (v := 1) hx hb d_M_sample_26 (by decide) ?_
      refine vp_callSi (va_Run.run (va_runS (As := [.long p2.toInt64, .long 0, .long 1]) (rest := [.ref (h 0)]) ⟨hx, hb, hml, hown, hts⟩ (t_M_in l p2.toInt64 (0 : Int64) (1 : Int64) hw) (va_cwS 3 hts (gS m_432 m_433 m_5 (cw_call m_434)) rfl rfl rfl (by decide +kernel) ⟨Nat.le_of_ble_eq_true rfl, Nat.le_of_ble_eq_true rfl⟩) ⟨pSt_bl, fun U hU hW => ⟨rfl, trivial⟩⟩ rfl rfl hl.1 rfl (lv_room (Nat.le_of_ble_eq_true rfl)) d_M_sample_27 ⟨Nat.le_of_ble_eq_true rfl, Nat.le_of_ble_eq_true rfl⟩)) (fun r6 hw => ?_)
      refine lv_if_eq (tgt := 37) hx hb d_M_sample_30 (by decide) (fun c7 => ?_) (fun c7 => ?_)
      · skip
        have hw := hw.1 c7
        refine lv_iconst (v := 2) hx hb d_M_sample_37 (by decide) ?_
        refine va_put (D := (dC, dI)) (ci := 2) (v := .int 2) (ty := .int) (C := RM) (T := TM) (N := 15) hx hb hts i_M tyM tyM_ok nmM hown hK hP hD hS 0 rfl rfl 0 (by decide) (hts _ m_376) (fun _ h9 => h9) rfl (by decide +kernel) rfl rfl (Nat.le_of_ble_eq_true rfl) d_M_sample_38 (fun H locs hP hD hS => ?_)
        have hP : va_P (dC, dI) vwCl [(h 0, .inr (2, [.int 2, .int (MS.lines u1), .ref (h 1), .int (MS.cuts u1), .ref (h 2), .ref (h 3), .int (MS.curves u1), .ref (h 4), .ref (h 5), .long (MS.up u1), .long (MS.down u1), .long (MS.xu u1), .long (MS.xd u1), .int (MS.strip u1), .int (MS.place u1)])), (h 1, .inl (k 1, 18, .inl (MS.num u1))), (h 2, .inl (k 2, 24, .inr (.inl (MS.cu u1)))), (h 3, .inl (k 3, 24, .inr (.inl (MS.cd u1)))), (h 4, .inl (k 4, 6, .inr (.inl (MS.yu u1)))), (h 5, .inl (k 5, 6, .inr (.inl (MS.yd u1))))] H := hP
        have hD : va_D A [(h 0, .inr (2, [.int 2, .int (MS.lines u1), .ref (h 1), .int (MS.cuts u1), .ref (h 2), .ref (h 3), .int (MS.curves u1), .ref (h 4), .ref (h 5), .long (MS.up u1), .long (MS.down u1), .long (MS.xu u1), .long (MS.xd u1), .int (MS.strip u1), .int (MS.place u1)])), (h 1, .inl (k 1, 18, .inl (MS.num u1))), (h 2, .inl (k 2, 24, .inr (.inl (MS.cu u1)))), (h 3, .inl (k 3, 24, .inr (.inl (MS.cd u1)))), (h 4, .inl (k 4, 6, .inr (.inl (MS.yu u1)))), (h 5, .inl (k 5, 6, .inr (.inl (MS.yd u1))))] := hD
        refine lv_aload_n hx hb d_M_sample_41 rfl (lv_at hl 0 rfl) ?_
        refine va_get (D := (dC, dI)) (ci := 2) (v := .int 2) (C := RM) (T := TM) (N := 15) hx hb hts i_M hown hK hP 0 rfl rfl 0 (by decide) (hts _ m_376) (fun _ h9 => h9) rfl d_M_sample_42 ?_
        refine lv_if_le (tgt := 50) hx hb d_M_sample_45 (by decide) (fun cz => absurd cz (by decide)) (fun _ => ?_)
        refine lv_lconst (v := 0) hx hb d_M_sample_48 (by decide) ?_
        have hP : va_P (dC, dI) vwCl (WM h k (2, (MS.lines u1), (MS.num u1), (MS.cuts u1), (MS.cu u1), (MS.cd u1), (MS.curves u1), (MS.yu u1), (MS.yd u1), (MS.up u1), (MS.down u1), (MS.xu u1), (MS.xd u1), (MS.strip u1), (MS.place u1))) _ := hP
        have hD : va_D A (WM h k (2, (MS.lines u1), (MS.num u1), (MS.cuts u1), (MS.cu u1), (MS.cd u1), (MS.curves u1), (MS.yu u1), (MS.yd u1), (MS.up u1), (MS.down u1), (MS.xu u1), (MS.xd u1), (MS.strip u1), (MS.place u1))) := hD
        exact W.lret (v := 0) hx hb hr (fun t ht hW => ⟨⟨0, (2, (MS.lines u1), (MS.num u1), (MS.cuts u1), (MS.cu u1), (MS.cd u1), (MS.curves u1), (MS.yu u1), (MS.yd u1), (MS.up u1), (MS.down u1), (MS.xu u1), (MS.xd u1), (MS.strip u1), (MS.place u1)), rfl, hw, by rw [ht]; exact hP, hD⟩, hS.F ht⟩) hS.2.2 d_M_sample_49
      · skip
        have hw := hw.2 c7
        refine lv_iconst (v := 0) hx hb d_M_sample_33 (by decide) ?_
        refine lv_goto (tgt := 38) hx hb d_M_sample_34 (by decide) ?_
        refine va_put (D := (dC, dI)) (ci := 2) (v := .int 0) (ty := .int) (C := RM) (T := TM) (N := 15) hx hb hts i_M tyM tyM_ok nmM hown hK hP hD hS 0 rfl rfl 0 (by decide) (hts _ m_376) (fun _ h9 => h9) rfl (by decide +kernel) rfl rfl (Nat.le_of_ble_eq_true rfl) d_M_sample_38 (fun H locs hP hD hS => ?_)
        have hP : va_P (dC, dI) vwCl [(h 0, .inr (2, [.int 0, .int (MS.lines u1), .ref (h 1), .int (MS.cuts u1), .ref (h 2), .ref (h 3), .int (MS.curves u1), .ref (h 4), .ref (h 5), .long (MS.up u1), .long (MS.down u1), .long (MS.xu u1), .long (MS.xd u1), .int (MS.strip u1), .int (MS.place u1)])), (h 1, .inl (k 1, 18, .inl (MS.num u1))), (h 2, .inl (k 2, 24, .inr (.inl (MS.cu u1)))), (h 3, .inl (k 3, 24, .inr (.inl (MS.cd u1)))), (h 4, .inl (k 4, 6, .inr (.inl (MS.yu u1)))), (h 5, .inl (k 5, 6, .inr (.inl (MS.yd u1))))] H := hP
        have hD : va_D A [(h 0, .inr (2, [.int 0, .int (MS.lines u1), .ref (h 1), .int (MS.cuts u1), .ref (h 2), .ref (h 3), .int (MS.curves u1), .ref (h 4), .ref (h 5), .long (MS.up u1), .long (MS.down u1), .long (MS.xu u1), .long (MS.xd u1), .int (MS.strip u1), .int (MS.place u1)])), (h 1, .inl (k 1, 18, .inl (MS.num u1))), (h 2, .inl (k 2, 24, .inr (.inl (MS.cu u1)))), (h 3, .inl (k 3, 24, .inr (.inl (MS.cd u1)))), (h 4, .inl (k 4, 6, .inr (.inl (MS.yu u1)))), (h 5, .inl (k 5, 6, .inr (.inl (MS.yd u1))))] := hD
        refine lv_aload_n hx hb d_M_sample_41 rfl (lv_at hl 0 rfl) ?_
        refine va_get (D := (dC, dI)) (ci := 2) (v := .int 0) (C := RM) (T := TM) (N := 15) hx hb hts i_M hown hK hP 0 rfl rfl 0 (by decide) (hts _ m_376) (fun _ h9 => h9) rfl d_M_sample_42 ?_
        refine lv_if_le (tgt := 50) hx hb d_M_sample_45 (by decide) (fun _ => ?_) (fun cz => absurd (by decide) cz)
        refine lv_iload_n hx hb d_M_sample_50 rfl (lv_at hl 2 rfl) ?_
        refine lv_if_ne (tgt := 69) hx hb d_M_sample_51 (by decide) (fun c8 => ?_) (fun c8 => ?_)
        · skip
          have hw := hw.1 c8
          refine lv_aload_n hx hb d_M_sample_69 rfl (lv_at hl 0 rfl) ?_
          have hP : va_P (dC, dI) vwCl (WM h k (0, (MS.lines u1), (MS.num u1), (MS.cuts u1), (MS.cu u1), (MS.cd u1), (MS.curves u1), (MS.yu u1), (MS.yd u1), (MS.up u1), (MS.down u1), (MS.xu u1), (MS.xd u1), (MS.strip u1), (MS.place u1))) _ := hP
          have hD : va_D A (WM h k (0, (MS.lines u1), (MS.num u1), (MS.cuts u1), (MS.cu u1), (MS.cd u1), (MS.curves u1), (MS.yu u1), (MS.yd u1), (MS.up u1), (MS.down u1), (MS.xu u1), (MS.xd u1), (MS.strip u1), (MS.place u1))) := hD
          have hFc := va_freeA hD hS hA
          refine va_callv (va_runV (As := []) (rest := []) ⟨hx, hb, hml, hown, hts⟩ (t_M_sampleY l dC dI h k _ (0, (MS.lines u1), (MS.num u1), (MS.cuts u1), (MS.cu u1), (MS.cd u1), (MS.curves u1), (MS.yu u1), (MS.yd u1), (MS.up u1), (MS.down u1), (MS.xu u1), (MS.xd u1), (MS.strip u1), (MS.place u1))  hw) (cwV 0 hts (gV m_504 m_506 s_25 m_5 (cw_call m_507)) rfl rfl rfl (by decide +kernel) ⟨Nat.le_of_ble_eq_true rfl, Nat.le_of_ble_eq_true rfl⟩) ⟨pRw_bl, va_recv hK hP (ci := 2) (q0 := 0) rfl rfl, fun U hU hW => ⟨rfl, pRw_at hP hK hN hD hU hW⟩⟩ rfl rfl hl.1 rfl (lv_room (Nat.le_of_ble_eq_true rfl)) d_M_sample_70 ⟨Nat.le_of_ble_eq_true rfl, Nat.le_of_ble_eq_true rfl⟩) hS (fun q _ h => hFc q h) hFc (fun u9 t H1 locs ht hvm hw hB hz1 hk1 hS => ?_)
          obtain ⟨hP1, hD1⟩ := hB
          rw [ht] at hP1
          have hP := hP1
          have hD := hD1.weaken (fun _ q _ h => hFc q.1 h)
          generalize H1 = H at hP hS ⊢
          have hP : va_P (dC, dI) vwCl (WM h k u9) H := hP
          have hD : va_D A (WM h k u9) := hD
          refine lv_aload_n hx hb d_M_sample_73 rfl (lv_at hl 0 rfl) ?_
          refine lv_iload_n hx hb d_M_sample_74 rfl (lv_at hl 3 rfl) ?_
          refine vp_callSl (va_Run.run (va_runV (As := [.int p2]) (rest := []) ⟨hx, hb, hml, hown, hts⟩ (t_M_told l dC dI h k u9 p2 hw) (cwV 1 hts (gV m_508 m_510 s_26 m_5 (cw_call m_511)) rfl rfl rfl (by decide +kernel) ⟨Nat.le_of_ble_eq_true rfl, Nat.le_of_ble_eq_true rfl⟩) ⟨pRo_bl, va_recv hK hP (ci := 2) (q0 := 0) rfl rfl, fun U hU hW => ⟨rfl, pRo_at hP hK hN hU hW⟩⟩ rfl rfl hl.1 rfl (lv_room (Nat.le_of_ble_eq_true rfl)) d_M_sample_75 ⟨Nat.le_of_ble_eq_true rfl, Nat.le_of_ble_eq_true rfl⟩)) (fun r10 hw => ?_)
          exact W.lret (v := r10) hx hb hr (fun t ht hW => ⟨⟨r10, u9, rfl, hw, by rw [ht]; exact hP, hD⟩, hS.F ht⟩) hS.2.2 d_M_sample_78
        · skip
          have hw := hw.2 c8
          refine lv_aload_n hx hb d_M_sample_54 rfl (lv_at hl 0 rfl) ?_
          refine lv_aload_n hx hb d_M_sample_55 rfl (lv_at hl 0 rfl) ?_
          refine va_get (D := (dC, dI)) (ci := 2) (v := .long (MS.xu u1)) (C := RM) (T := TM) (N := 15) hx hb hts i_M hown hK hP 0 rfl rfl 11 (by decide) (hts _ m_387) (fun _ h9 => h9) rfl d_M_sample_56 ?_
          refine lv_aload_n hx hb d_M_sample_59 rfl (lv_at hl 0 rfl) ?_
          refine va_get (D := (dC, dI)) (ci := 2) (v := .long (MS.xd u1)) (C := RM) (T := TM) (N := 15) hx hb hts i_M hown hK hP 0 rfl rfl 12 (by decide) (hts _ m_388) (fun _ h9 => h9) rfl d_M_sample_60 ?_
          have hP : va_P (dC, dI) vwCl (WM h k (0, (MS.lines u1), (MS.num u1), (MS.cuts u1), (MS.cu u1), (MS.cd u1), (MS.curves u1), (MS.yu u1), (MS.yd u1), (MS.up u1), (MS.down u1), (MS.xu u1), (MS.xd u1), (MS.strip u1), (MS.place u1))) _ := hP
          have hD : va_D A (WM h k (0, (MS.lines u1), (MS.num u1), (MS.cuts u1), (MS.cu u1), (MS.cd u1), (MS.curves u1), (MS.yu u1), (MS.yd u1), (MS.up u1), (MS.down u1), (MS.xu u1), (MS.xd u1), (MS.strip u1), (MS.place u1))) := hD
          have hFc := va_freeA hD hS hA
          refine va_callv (va_runV (As := [.long (MS.xu u1), .long (MS.xd u1)]) (rest := []) ⟨hx, hb, hml, hown, hts⟩ (t_M_lowest l dC dI h k _ (0, (MS.lines u1), (MS.num u1), (MS.cuts u1), (MS.cu u1), (MS.cd u1), (MS.curves u1), (MS.yu u1), (MS.yd u1), (MS.up u1), (MS.down u1), (MS.xu u1), (MS.xd u1), (MS.strip u1), (MS.place u1)) (MS.xu u1) (MS.xd u1) hw) (cwV 2 hts (gV m_439 m_441 s_17 m_5 (cw_call m_442)) rfl rfl rfl (by decide +kernel) ⟨Nat.le_of_ble_eq_true rfl, Nat.le_of_ble_eq_true rfl⟩) ⟨pRw_bl, va_recv hK hP (ci := 2) (q0 := 0) rfl rfl, fun U hU hW => ⟨rfl, pRw_at hP hK hN hD hU hW⟩⟩ rfl rfl hl.1 rfl (lv_room (Nat.le_of_ble_eq_true rfl)) d_M_sample_63 ⟨Nat.le_of_ble_eq_true rfl, Nat.le_of_ble_eq_true rfl⟩) hS (fun q _ h => hFc q h) hFc (fun u11 t H1 locs ht hvm hw hB hz1 hk1 hS => ?_)
          obtain ⟨hP1, hD1⟩ := hB
          rw [ht] at hP1
          have hP := hP1
          have hD := hD1.weaken (fun _ q _ h => hFc q.1 h)
          generalize H1 = H at hP hS ⊢
          have hP : va_P (dC, dI) vwCl (WM h k u11) H := hP
          have hD : va_D A (WM h k u11) := hD
          refine lv_goto (tgt := 73) hx hb d_M_sample_66 (by decide) ?_
          refine lv_aload_n hx hb d_M_sample_73 rfl (lv_at hl 0 rfl) ?_
          refine lv_iload_n hx hb d_M_sample_74 rfl (lv_at hl 3 rfl) ?_
          refine vp_callSl (va_Run.run (va_runV (As := [.int p2]) (rest := []) ⟨hx, hb, hml, hown, hts⟩ (t_M_told l dC dI h k u11 p2 hw) (cwV 1 hts (gV m_508 m_510 s_26 m_5 (cw_call m_511)) rfl rfl rfl (by decide +kernel) ⟨Nat.le_of_ble_eq_true rfl, Nat.le_of_ble_eq_true rfl⟩) ⟨pRo_bl, va_recv hK hP (ci := 2) (q0 := 0) rfl rfl, fun U hU hW => ⟨rfl, pRo_at hP hK hN hU hW⟩⟩ rfl rfl hl.1 rfl (lv_room (Nat.le_of_ble_eq_true rfl)) d_M_sample_75 ⟨Nat.le_of_ble_eq_true rfl, Nat.le_of_ble_eq_true rfl⟩)) (fun r12 hw => ?_)
          exact W.lret (v := r12) hx hb hr (fun t ht hW => ⟨⟨r12, u11, rfl, hw, by rw [ht]; exact hP, hD⟩, hS.F ht⟩) hS.2.2 d_M_sample_78
  · skip
    have hw := hw.2 c3
    refine lv_iconst (v := 1) hx hb d_M_sample_9 (by decide) ?_
    refine lv_goto (tgt := 38) hx hb d_M_sample_10 (by decide) ?_
    refine va_put (D := (dC, dI)) (ci := 2) (v := .int 1) (ty := .int) (C := RM) (T := TM) (N := 15) hx hb hts i_M tyM tyM_ok nmM hown hK hP hD hS 0 rfl rfl 0 (by decide) (hts _ m_376) (fun _ h9 => h9) rfl (by decide +kernel) rfl rfl (Nat.le_of_ble_eq_true rfl) d_M_sample_38 (fun H locs hP hD hS => ?_)
    have hP : va_P (dC, dI) vwCl [(h 0, .inr (2, [.int 1, .int (MS.lines u1), .ref (h 1), .int (MS.cuts u1), .ref (h 2), .ref (h 3), .int (MS.curves u1), .ref (h 4), .ref (h 5), .long (MS.up u1), .long (MS.down u1), .long (MS.xu u1), .long (MS.xd u1), .int (MS.strip u1), .int (MS.place u1)])), (h 1, .inl (k 1, 18, .inl (MS.num u1))), (h 2, .inl (k 2, 24, .inr (.inl (MS.cu u1)))), (h 3, .inl (k 3, 24, .inr (.inl (MS.cd u1)))), (h 4, .inl (k 4, 6, .inr (.inl (MS.yu u1)))), (h 5, .inl (k 5, 6, .inr (.inl (MS.yd u1))))] H := hP
    have hD : va_D A [(h 0, .inr (2, [.int 1, .int (MS.lines u1), .ref (h 1), .int (MS.cuts u1), .ref (h 2), .ref (h 3), .int (MS.curves u1), .ref (h 4), .ref (h 5), .long (MS.up u1), .long (MS.down u1), .long (MS.xu u1), .long (MS.xd u1), .int (MS.strip u1), .int (MS.place u1)])), (h 1, .inl (k 1, 18, .inl (MS.num u1))), (h 2, .inl (k 2, 24, .inr (.inl (MS.cu u1)))), (h 3, .inl (k 3, 24, .inr (.inl (MS.cd u1)))), (h 4, .inl (k 4, 6, .inr (.inl (MS.yu u1)))), (h 5, .inl (k 5, 6, .inr (.inl (MS.yd u1))))] := hD
    refine lv_aload_n hx hb d_M_sample_41 rfl (lv_at hl 0 rfl) ?_
    refine va_get (D := (dC, dI)) (ci := 2) (v := .int 1) (C := RM) (T := TM) (N := 15) hx hb hts i_M hown hK hP 0 rfl rfl 0 (by decide) (hts _ m_376) (fun _ h9 => h9) rfl d_M_sample_42 ?_
    refine lv_if_le (tgt := 50) hx hb d_M_sample_45 (by decide) (fun cz => absurd cz (by decide)) (fun _ => ?_)
    refine lv_lconst (v := 0) hx hb d_M_sample_48 (by decide) ?_
    have hP : va_P (dC, dI) vwCl (WM h k (1, (MS.lines u1), (MS.num u1), (MS.cuts u1), (MS.cu u1), (MS.cd u1), (MS.curves u1), (MS.yu u1), (MS.yd u1), (MS.up u1), (MS.down u1), (MS.xu u1), (MS.xd u1), (MS.strip u1), (MS.place u1))) _ := hP
    have hD : va_D A (WM h k (1, (MS.lines u1), (MS.num u1), (MS.cuts u1), (MS.cu u1), (MS.cd u1), (MS.curves u1), (MS.yu u1), (MS.yd u1), (MS.up u1), (MS.down u1), (MS.xu u1), (MS.xd u1), (MS.strip u1), (MS.place u1))) := hD
    exact W.lret (v := 0) hx hb hr (fun t ht hW => ⟨⟨0, (1, (MS.lines u1), (MS.num u1), (MS.cuts u1), (MS.cu u1), (MS.cd u1), (MS.curves u1), (MS.yu u1), (MS.yd u1), (MS.up u1), (MS.down u1), (MS.xu u1), (MS.xd u1), (MS.strip u1), (MS.place u1)), rfl, hw, by rw [ht]; exact hP, hD⟩, hS.F ht⟩) hS.2.2 d_M_sample_49
def w_M_sign (st : MS) (post : Int32 → MS → Prop) (p0 : Int32) (p1 : Int32) : Prop := w_M_isCell st (fun r2 u1 => ((r2 = 0 → (post 0 (1, (MS.lines u1), (MS.num u1), (MS.cuts u1), (MS.cu u1), (MS.cd u1), (MS.curves u1), (MS.yu u1), (MS.yd u1), (MS.up u1), (MS.down u1), (MS.xu u1), (MS.xd u1), (MS.strip u1), (MS.place u1)))) ∧ (¬ r2 = 0 → (w_M_in (fun r4 => ((r4 = 0 → (post 0 (1, (MS.lines u1), (MS.num u1), (MS.cuts u1), (MS.cu u1), (MS.cd u1), (MS.curves u1), (MS.yu u1), (MS.yd u1), (MS.up u1), (MS.down u1), (MS.xu u1), (MS.xd u1), (MS.strip u1), (MS.place u1)))) ∧ (¬ r4 = 0 → (w_M_sampleY (0, (MS.lines u1), (MS.num u1), (MS.cuts u1), (MS.cu u1), (MS.cd u1), (MS.curves u1), (MS.yu u1), (MS.yd u1), (MS.up u1), (MS.down u1), (MS.xu u1), (MS.xd u1), (MS.strip u1), (MS.place u1)) (fun u6 => (w_M_signAt u6 (fun r7 => (post r7 u6)) p1)) )))) p1.toInt64 (0 : Int64) (((MS.lines u1) - 1).toInt64))))) p0
set_option maxHeartbeats 4000000 in
set_option maxRecDepth 100000 in
theorem t_M_sign (l : Launch) (dC : Nat → ClassId) (dI : Nat → Nat → Nat) (h : Nat → Nat) (k : Nat → ClassId) (sz : Nat) (st : MS) (p0 : Int32) (p1 : Int32) {post : Int32 → MS → Prop} (hw : w_M_sign st post p0 p1) : Met l y_M_sign (Cond.code y_M_sign prog_4_method_26_code 3 (some .int) :: cw) ({ frames := 5, cells := 0, slots := 0, locals := 118 } : Room) (va_Pc [.ref (h 0), .int p0, .int p1] (pRw (dC, dI) (WM h k st) (YM k) sz)) (va_Qi post (fun u t => va_P (dC, dI) vwCl (WM h k u) t.heap ∧ va_D (va_A (WM h k st) sz) (WM h k u)) (va_A (WM h k st) sz)) 0 0 (va_A (WM h k st) sz) := by
  refine Met.ofW (cc := prog_4_method_26_code) (maxL := 3) (ret := (some .int)) (by decide) rfl ?_
  intro p e s m args below meth c s₁ B hml hv
  obtain ⟨rfl, hsz, hP, hK, hN, hD0⟩ := hv
  have hx := B.exec
  have hb := B.bytes
  have hr := B.returns
  have hts : ∀ w ∈ cw, w.before _ s = true := fun w h => atoms_spec (ws := (Cond.code y_M_sign prog_4_method_26_code 3 (some .int) :: cw)) B.pre w (List.mem_cons_of_mem _ h)
  have hown : s.vm.findClass RM = some m.cls := findClass_of_methodNamed B.named
  have hlocks := B.notSynchronized
  have C0 : cxt p s m _ meth c prog_4_method_26_code 3 RM (some .int) := ⟨hx, hb, hr, hml, hown, hts, hlocks⟩
  subst hsz
  have hD := hD0.self (sz := s.heap.size)
  generalize hAe : va_A (WM h k st) s.heap.size = A at hD ⊢
  have hA : ∀ q : Nat, s.heap.size ≤ q → A q := fun q h => by rw [← hAe]; exact Or.inr h
  have hS : va_S A s.heap s.heap [] := va_S.rf
  have hl := lv_entry ([.ref (h 0), .int p0, .int p1]) (n := 3) (Nat.le_of_ble_eq_true rfl)
  rw [lg_entry_eq]
  generalize (lg_sl ([.ref (h 0), .int p0, .int p1]) ++ List.replicate (3 - (lg_sl ([.ref (h 0), .int p0, .int p1])).length) Slot.unset).toArray = ls at hl ⊢
  have hl : lv_has ls 3 [(0, .ref (h 0)), (1, .int p0), (2, .int p1)] := hl
  unfold w_M_sign at hw
  refine lv_aload_n hx hb d_M_sign_0 rfl (lv_at hl 0 rfl) ?_
  refine lv_aload_n hx hb d_M_sign_1 rfl (lv_at hl 0 rfl) ?_
  refine lv_iload_n hx hb d_M_sign_2 rfl (lv_at hl 1 rfl) ?_
  have hFc := va_freeA hD hS hA
  refine va_calli (va_runV (As := [.int p0]) (rest := [.ref (h 0)]) ⟨hx, hb, hml, hown, hts⟩ (t_M_isCell l dC dI h k _ st p0 hw) (cwV 1 hts (gV m_496 m_498 s_24 m_5 (cw_call m_499)) rfl rfl rfl (by decide +kernel) ⟨Nat.le_of_ble_eq_true rfl, Nat.le_of_ble_eq_true rfl⟩) ⟨pRw_bl, va_recv hK hP (ci := 2) (q0 := 0) rfl rfl, fun U hU hW => ⟨rfl, pRw_at hP hK hN hD hU hW⟩⟩ rfl rfl hl.1 rfl (lv_room (Nat.le_of_ble_eq_true rfl)) d_M_sign_3 ⟨Nat.le_of_ble_eq_true rfl, Nat.le_of_ble_eq_true rfl⟩) hS (fun q _ h => hFc q h) hFc (fun r2 u1 t H1 locs ht hvm hw hB hz1 hk1 hS => ?_)
  obtain ⟨hP1, hD1⟩ := hB
  rw [ht] at hP1
  have hP := hP1
  have hD := hD1.weaken (fun _ q _ h => hFc q.1 h)
  generalize H1 = H at hP hS ⊢
  have hP : va_P (dC, dI) vwCl (WM h k u1) H := hP
  have hD : va_D A (WM h k u1) := hD
  refine lv_if_eq (tgt := 29) hx hb d_M_sign_6 (by decide) (fun c3 => ?_) (fun c3 => ?_)
  · skip
    have hw := hw.1 c3
    refine lv_iconst (v := 1) hx hb d_M_sign_29 (by decide) ?_
    refine va_put (D := (dC, dI)) (ci := 2) (v := .int 1) (ty := .int) (C := RM) (T := TM) (N := 15) hx hb hts i_M tyM tyM_ok nmM hown hK hP hD hS 0 rfl rfl 0 (by decide) (hts _ m_376) (fun _ h9 => h9) rfl (by decide +kernel) rfl rfl (Nat.le_of_ble_eq_true rfl) d_M_sign_30 (fun H locs hP hD hS => ?_)
    have hP : va_P (dC, dI) vwCl [(h 0, .inr (2, [.int 1, .int (MS.lines u1), .ref (h 1), .int (MS.cuts u1), .ref (h 2), .ref (h 3), .int (MS.curves u1), .ref (h 4), .ref (h 5), .long (MS.up u1), .long (MS.down u1), .long (MS.xu u1), .long (MS.xd u1), .int (MS.strip u1), .int (MS.place u1)])), (h 1, .inl (k 1, 18, .inl (MS.num u1))), (h 2, .inl (k 2, 24, .inr (.inl (MS.cu u1)))), (h 3, .inl (k 3, 24, .inr (.inl (MS.cd u1)))), (h 4, .inl (k 4, 6, .inr (.inl (MS.yu u1)))), (h 5, .inl (k 5, 6, .inr (.inl (MS.yd u1))))] H := hP
    have hD : va_D A [(h 0, .inr (2, [.int 1, .int (MS.lines u1), .ref (h 1), .int (MS.cuts u1), .ref (h 2), .ref (h 3), .int (MS.curves u1), .ref (h 4), .ref (h 5), .long (MS.up u1), .long (MS.down u1), .long (MS.xu u1), .long (MS.xd u1), .int (MS.strip u1), .int (MS.place u1)])), (h 1, .inl (k 1, 18, .inl (MS.num u1))), (h 2, .inl (k 2, 24, .inr (.inl (MS.cu u1)))), (h 3, .inl (k 3, 24, .inr (.inl (MS.cd u1)))), (h 4, .inl (k 4, 6, .inr (.inl (MS.yu u1)))), (h 5, .inl (k 5, 6, .inr (.inl (MS.yd u1))))] := hD
    refine lv_aload_n hx hb d_M_sign_33 rfl (lv_at hl 0 rfl) ?_
    refine va_get (D := (dC, dI)) (ci := 2) (v := .int 1) (C := RM) (T := TM) (N := 15) hx hb hts i_M hown hK hP 0 rfl rfl 0 (by decide) (hts _ m_376) (fun _ h9 => h9) rfl d_M_sign_34 ?_
    refine lv_if_le (tgt := 42) hx hb d_M_sign_37 (by decide) (fun cz => absurd cz (by decide)) (fun _ => ?_)
    refine lv_iconst (v := 0) hx hb d_M_sign_40 (by decide) ?_
    have hP : va_P (dC, dI) vwCl (WM h k (1, (MS.lines u1), (MS.num u1), (MS.cuts u1), (MS.cu u1), (MS.cd u1), (MS.curves u1), (MS.yu u1), (MS.yd u1), (MS.up u1), (MS.down u1), (MS.xu u1), (MS.xd u1), (MS.strip u1), (MS.place u1))) _ := hP
    have hD : va_D A (WM h k (1, (MS.lines u1), (MS.num u1), (MS.cuts u1), (MS.cu u1), (MS.cd u1), (MS.curves u1), (MS.yu u1), (MS.yd u1), (MS.up u1), (MS.down u1), (MS.xu u1), (MS.xd u1), (MS.strip u1), (MS.place u1))) := hD
    exact W.iret (v := 0) hx hb hr (fun t ht hW => ⟨⟨0, (1, (MS.lines u1), (MS.num u1), (MS.cuts u1), (MS.cu u1), (MS.cd u1), (MS.curves u1), (MS.yu u1), (MS.yd u1), (MS.up u1), (MS.down u1), (MS.xu u1), (MS.xd u1), (MS.strip u1), (MS.place u1)), rfl, hw, by rw [ht]; exact hP, hD⟩, hS.F ht⟩) hS.2.2 d_M_sign_41
  · skip
    have hw := hw.2 c3
    refine lv_iload_n hx hb d_M_sign_9 rfl (lv_at hl 2 rfl) ?_
    refine lv_i2l (v := p1.toInt64) hx hb d_M_sign_10 rfl ?_
    refine lv_lconst (v := 0) hx hb d_M_sign_11 (by decide) ?_
    refine lv_aload_n hx hb d_M_sign_12 rfl (lv_at hl 0 rfl) ?_
    refine va_get (D := (dC, dI)) (ci := 2) (v := .int (MS.lines u1)) (C := RM) (T := TM) (N := 15) hx hb hts i_M hown hK hP 0 rfl rfl 1 (by decide) (hts _ m_377) (fun _ h9 => h9) rfl d_M_sign_13 ?_
    refine lv_iconst (v := 1) hx hb d_M_sign_16 (by decide) ?_
    refine lv_isub hx hb d_M_sign_17 ?_
    refine lv_i2l (v := ((MS.lines u1) - 1).toInt64) hx hb d_M_sign_18 rfl ?_
    refine vp_callSi (va_Run.run (va_runS (As := [.long p1.toInt64, .long 0, .long (((MS.lines u1) - 1).toInt64)]) (rest := [.ref (h 0)]) ⟨hx, hb, hml, hown, hts⟩ (t_M_in l p1.toInt64 (0 : Int64) (((MS.lines u1) - 1).toInt64) hw) (va_cwS 3 hts (gS m_432 m_433 m_5 (cw_call m_434)) rfl rfl rfl (by decide +kernel) ⟨Nat.le_of_ble_eq_true rfl, Nat.le_of_ble_eq_true rfl⟩) ⟨pSt_bl, fun U hU hW => ⟨rfl, trivial⟩⟩ rfl rfl hl.1 rfl (lv_room (Nat.le_of_ble_eq_true rfl)) d_M_sign_19 ⟨Nat.le_of_ble_eq_true rfl, Nat.le_of_ble_eq_true rfl⟩)) (fun r4 hw => ?_)
    refine lv_if_eq (tgt := 29) hx hb d_M_sign_22 (by decide) (fun c5 => ?_) (fun c5 => ?_)
    · skip
      have hw := hw.1 c5
      refine lv_iconst (v := 1) hx hb d_M_sign_29 (by decide) ?_
      refine va_put (D := (dC, dI)) (ci := 2) (v := .int 1) (ty := .int) (C := RM) (T := TM) (N := 15) hx hb hts i_M tyM tyM_ok nmM hown hK hP hD hS 0 rfl rfl 0 (by decide) (hts _ m_376) (fun _ h9 => h9) rfl (by decide +kernel) rfl rfl (Nat.le_of_ble_eq_true rfl) d_M_sign_30 (fun H locs hP hD hS => ?_)
      have hP : va_P (dC, dI) vwCl [(h 0, .inr (2, [.int 1, .int (MS.lines u1), .ref (h 1), .int (MS.cuts u1), .ref (h 2), .ref (h 3), .int (MS.curves u1), .ref (h 4), .ref (h 5), .long (MS.up u1), .long (MS.down u1), .long (MS.xu u1), .long (MS.xd u1), .int (MS.strip u1), .int (MS.place u1)])), (h 1, .inl (k 1, 18, .inl (MS.num u1))), (h 2, .inl (k 2, 24, .inr (.inl (MS.cu u1)))), (h 3, .inl (k 3, 24, .inr (.inl (MS.cd u1)))), (h 4, .inl (k 4, 6, .inr (.inl (MS.yu u1)))), (h 5, .inl (k 5, 6, .inr (.inl (MS.yd u1))))] H := hP
      have hD : va_D A [(h 0, .inr (2, [.int 1, .int (MS.lines u1), .ref (h 1), .int (MS.cuts u1), .ref (h 2), .ref (h 3), .int (MS.curves u1), .ref (h 4), .ref (h 5), .long (MS.up u1), .long (MS.down u1), .long (MS.xu u1), .long (MS.xd u1), .int (MS.strip u1), .int (MS.place u1)])), (h 1, .inl (k 1, 18, .inl (MS.num u1))), (h 2, .inl (k 2, 24, .inr (.inl (MS.cu u1)))), (h 3, .inl (k 3, 24, .inr (.inl (MS.cd u1)))), (h 4, .inl (k 4, 6, .inr (.inl (MS.yu u1)))), (h 5, .inl (k 5, 6, .inr (.inl (MS.yd u1))))] := hD
      refine lv_aload_n hx hb d_M_sign_33 rfl (lv_at hl 0 rfl) ?_
      refine va_get (D := (dC, dI)) (ci := 2) (v := .int 1) (C := RM) (T := TM) (N := 15) hx hb hts i_M hown hK hP 0 rfl rfl 0 (by decide) (hts _ m_376) (fun _ h9 => h9) rfl d_M_sign_34 ?_
      refine lv_if_le (tgt := 42) hx hb d_M_sign_37 (by decide) (fun cz => absurd cz (by decide)) (fun _ => ?_)
      refine lv_iconst (v := 0) hx hb d_M_sign_40 (by decide) ?_
      have hP : va_P (dC, dI) vwCl (WM h k (1, (MS.lines u1), (MS.num u1), (MS.cuts u1), (MS.cu u1), (MS.cd u1), (MS.curves u1), (MS.yu u1), (MS.yd u1), (MS.up u1), (MS.down u1), (MS.xu u1), (MS.xd u1), (MS.strip u1), (MS.place u1))) _ := hP
      have hD : va_D A (WM h k (1, (MS.lines u1), (MS.num u1), (MS.cuts u1), (MS.cu u1), (MS.cd u1), (MS.curves u1), (MS.yu u1), (MS.yd u1), (MS.up u1), (MS.down u1), (MS.xu u1), (MS.xd u1), (MS.strip u1), (MS.place u1))) := hD
      exact W.iret (v := 0) hx hb hr (fun t ht hW => ⟨⟨0, (1, (MS.lines u1), (MS.num u1), (MS.cuts u1), (MS.cu u1), (MS.cd u1), (MS.curves u1), (MS.yu u1), (MS.yd u1), (MS.up u1), (MS.down u1), (MS.xu u1), (MS.xd u1), (MS.strip u1), (MS.place u1)), rfl, hw, by rw [ht]; exact hP, hD⟩, hS.F ht⟩) hS.2.2 d_M_sign_41
    · skip
      have hw := hw.2 c5
      refine lv_iconst (v := 0) hx hb d_M_sign_25 (by decide) ?_
      refine lv_goto (tgt := 30) hx hb d_M_sign_26 (by decide) ?_
      refine va_put (D := (dC, dI)) (ci := 2) (v := .int 0) (ty := .int) (C := RM) (T := TM) (N := 15) hx hb hts i_M tyM tyM_ok nmM hown hK hP hD hS 0 rfl rfl 0 (by decide) (hts _ m_376) (fun _ h9 => h9) rfl (by decide +kernel) rfl rfl (Nat.le_of_ble_eq_true rfl) d_M_sign_30 (fun H locs hP hD hS => ?_)
      have hP : va_P (dC, dI) vwCl [(h 0, .inr (2, [.int 0, .int (MS.lines u1), .ref (h 1), .int (MS.cuts u1), .ref (h 2), .ref (h 3), .int (MS.curves u1), .ref (h 4), .ref (h 5), .long (MS.up u1), .long (MS.down u1), .long (MS.xu u1), .long (MS.xd u1), .int (MS.strip u1), .int (MS.place u1)])), (h 1, .inl (k 1, 18, .inl (MS.num u1))), (h 2, .inl (k 2, 24, .inr (.inl (MS.cu u1)))), (h 3, .inl (k 3, 24, .inr (.inl (MS.cd u1)))), (h 4, .inl (k 4, 6, .inr (.inl (MS.yu u1)))), (h 5, .inl (k 5, 6, .inr (.inl (MS.yd u1))))] H := hP
      have hD : va_D A [(h 0, .inr (2, [.int 0, .int (MS.lines u1), .ref (h 1), .int (MS.cuts u1), .ref (h 2), .ref (h 3), .int (MS.curves u1), .ref (h 4), .ref (h 5), .long (MS.up u1), .long (MS.down u1), .long (MS.xu u1), .long (MS.xd u1), .int (MS.strip u1), .int (MS.place u1)])), (h 1, .inl (k 1, 18, .inl (MS.num u1))), (h 2, .inl (k 2, 24, .inr (.inl (MS.cu u1)))), (h 3, .inl (k 3, 24, .inr (.inl (MS.cd u1)))), (h 4, .inl (k 4, 6, .inr (.inl (MS.yu u1)))), (h 5, .inl (k 5, 6, .inr (.inl (MS.yd u1))))] := hD
      refine lv_aload_n hx hb d_M_sign_33 rfl (lv_at hl 0 rfl) ?_
      refine va_get (D := (dC, dI)) (ci := 2) (v := .int 0) (C := RM) (T := TM) (N := 15) hx hb hts i_M hown hK hP 0 rfl rfl 0 (by decide) (hts _ m_376) (fun _ h9 => h9) rfl d_M_sign_34 ?_
      refine lv_if_le (tgt := 42) hx hb d_M_sign_37 (by decide) (fun _ => ?_) (fun cz => absurd (by decide) cz)
      refine lv_aload_n hx hb d_M_sign_42 rfl (lv_at hl 0 rfl) ?_
      have hP : va_P (dC, dI) vwCl (WM h k (0, (MS.lines u1), (MS.num u1), (MS.cuts u1), (MS.cu u1), (MS.cd u1), (MS.curves u1), (MS.yu u1), (MS.yd u1), (MS.up u1), (MS.down u1), (MS.xu u1), (MS.xd u1), (MS.strip u1), (MS.place u1))) _ := hP
      have hD : va_D A (WM h k (0, (MS.lines u1), (MS.num u1), (MS.cuts u1), (MS.cu u1), (MS.cd u1), (MS.curves u1), (MS.yu u1), (MS.yd u1), (MS.up u1), (MS.down u1), (MS.xu u1), (MS.xd u1), (MS.strip u1), (MS.place u1))) := hD
      have hFc := va_freeA hD hS hA
      refine va_callv (va_runV (As := []) (rest := []) ⟨hx, hb, hml, hown, hts⟩ (t_M_sampleY l dC dI h k _ (0, (MS.lines u1), (MS.num u1), (MS.cuts u1), (MS.cu u1), (MS.cd u1), (MS.curves u1), (MS.yu u1), (MS.yd u1), (MS.up u1), (MS.down u1), (MS.xu u1), (MS.xd u1), (MS.strip u1), (MS.place u1))  hw) (cwV 0 hts (gV m_504 m_506 s_25 m_5 (cw_call m_507)) rfl rfl rfl (by decide +kernel) ⟨Nat.le_of_ble_eq_true rfl, Nat.le_of_ble_eq_true rfl⟩) ⟨pRw_bl, va_recv hK hP (ci := 2) (q0 := 0) rfl rfl, fun U hU hW => ⟨rfl, pRw_at hP hK hN hD hU hW⟩⟩ rfl rfl hl.1 rfl (lv_room (Nat.le_of_ble_eq_true rfl)) d_M_sign_43 ⟨Nat.le_of_ble_eq_true rfl, Nat.le_of_ble_eq_true rfl⟩) hS (fun q _ h => hFc q h) hFc (fun u6 t H1 locs ht hvm hw hB hz1 hk1 hS => ?_)
      obtain ⟨hP1, hD1⟩ := hB
      rw [ht] at hP1
      have hP := hP1
      have hD := hD1.weaken (fun _ q _ h => hFc q.1 h)
      generalize H1 = H at hP hS ⊢
      have hP : va_P (dC, dI) vwCl (WM h k u6) H := hP
      have hD : va_D A (WM h k u6) := hD
      refine lv_aload_n hx hb d_M_sign_46 rfl (lv_at hl 0 rfl) ?_
      refine lv_iload_n hx hb d_M_sign_47 rfl (lv_at hl 2 rfl) ?_
      refine vp_callSi (va_Run.run (va_runV (As := [.int p1]) (rest := []) ⟨hx, hb, hml, hown, hts⟩ (t_M_signAt l dC dI h k u6 p1 hw) (cwV 1 hts (gV m_516 m_518 s_27 m_5 (cw_call m_519)) rfl rfl rfl (by decide +kernel) ⟨Nat.le_of_ble_eq_true rfl, Nat.le_of_ble_eq_true rfl⟩) ⟨pRo_bl, va_recv hK hP (ci := 2) (q0 := 0) rfl rfl, fun U hU hW => ⟨rfl, pRo_at hP hK hN hU hW⟩⟩ rfl rfl hl.1 rfl (lv_room (Nat.le_of_ble_eq_true rfl)) d_M_sign_48 ⟨Nat.le_of_ble_eq_true rfl, Nat.le_of_ble_eq_true rfl⟩)) (fun r7 hw => ?_)
      exact W.iret (v := r7) hx hb hr (fun t ht hW => ⟨⟨r7, u6, rfl, hw, by rw [ht]; exact hP, hD⟩, hS.F ht⟩) hS.2.2 d_M_sign_51
def w_M_at_163 (post : Int32 → MS → Prop) : Nat → MS → Int32 → Int32 → Int32 → Int32 → Int32 → Int32 → Int32 → Prop
  | 0, _, _, _, _, _, _, _, _ => False
  | n + 1, st, v1, v2, v3, v4, v5, v6, v7 => (v5 ≤ v7 → (w_M_findCurves ((MS.code st), (MS.lines st), (MS.num st), (MS.cuts st), (MS.cu st), (MS.cd st), (MS.curves st), (MS.yu st), (MS.yd st), (MS.up st), (MS.down st), v1.toInt64, v2.toInt64, (MS.strip st), (MS.place st)) (fun u20 => (w_M_lowest u20 (fun u21 => (w_M_below u21 (fun r22 => (((MS.curves u21) ≤ r22 → (post ((v6 + (2 * r22)) + 0) u21)) ∧ (¬ (MS.curves u21) ≤ r22 → (vp_in r22 6 ∧ ((¬ ((MS.yu u21) r22.toNatClampNeg) = (MS.up u21) → (post ((v6 + (2 * r22)) + 0) u21)) ∧ (((MS.yu u21) r22.toNatClampNeg) = (MS.up u21) → ((¬ ((MS.yd u21) r22.toNatClampNeg) = (MS.down u21) → (post ((v6 + (2 * r22)) + 0) u21)) ∧ (((MS.yd u21) r22.toNatClampNeg) = (MS.down u21) → (post ((v6 + (2 * r22)) + 1) u21))))))))) )) v3.toInt64 v4.toInt64)) )) ∧ (¬ v5 ≤ v7 → (w_M_curvesOf st (fun u27 => (∀ y28 : Int32, y28 = (v6 + ((2 * (MS.curves u27)) + 1)) → (w_M_at_163 post n u27 v1 v2 v3 v4 v5 y28 (v7 + 1)))) v7))
set_option maxHeartbeats 4000000 in
set_option maxRecDepth 100000 in
theorem k_M_at_163 {p : Program} {l : Launch} {e : Env} {s : State} {m : MethodId} {args : Array Value} {below : List Frame} {meth : Method} {c : Code} {dC : Nat → ClassId} {dI : Nat → Nat → Nat} {h : Nat → Nat} {k : Nat → ClassId} {A : Nat → Prop} {post : Int32 → MS → Prop} (C0 : cxt p s m args meth c prog_4_method_27_code 9 RM (some .int)) (hK : va_K (dC, dI) vwCl (YM k) s) (hN : va_Nw nestW s) (hA : ∀ q, s.heap.size ≤ q → A q) : ∀ (n : Nat), ∀ (st : MS) (v1 : Int32) (v2 : Int32) (v3 : Int32) (v4 : Int32) (v5 : Int32) (v6 : Int32) (v7 : Int32) (H : Heap) (locs : List Loc), va_P (dC, dI) vwCl (WM h k st) H → va_D A (WM h k st) → va_S A s.heap H locs → ∀ ls, lv_has ls 9 [(0, .ref (h 0)), (1, .int v1), (2, .int v2), (3, .int v3), (4, .int v4), (5, .int v5), (6, .int v6), (7, .int v7)] → w_M_at_163 post n st v1 v2 v3 v4 v5 v6 v7 → W p l e ({ frames := 4, cells := 0, slots := 0, locals := 95 } : Room) s m args below meth c H locs 0 0 (MQ below (va_Qi post (fun u t => va_P (dC, dI) vwCl (WM h k u) t.heap ∧ va_D A (WM h k u)) A) args s 0 0 A) (F0 m 163 ls []) := by
  obtain ⟨hx, hb, hr, hml, hown, hts, hlocks⟩ := id C0
  intro n
  induction n with
  | zero =>
    intro st v1 v2 v3 v4 v5 v6 v7 H locs hP hD hS ls hl hw
    exact False.elim hw
  | succ n ih =>
    intro st v1 v2 v3 v4 v5 v6 v7 H locs hP hD hS ls hl hw
    rw [w_M_at_163] at hw
    refine lv_iload hx hb d_M_at_163 (lv_at hl 7 rfl) ?_
    refine lv_iload hx hb d_M_at_165 (lv_at hl 5 rfl) ?_
    refine lv_icmp_ge (tgt := 195) hx hb d_M_at_167 (by decide) (fun c19 => ?_) (fun c19 => ?_)
    · skip
      have hw := hw.1 c19
      refine lv_aload_n hx hb d_M_at_195 rfl (lv_at hl 0 rfl) ?_
      refine lv_iload_n hx hb d_M_at_196 rfl (lv_at hl 1 rfl) ?_
      refine lv_i2l (v := v1.toInt64) hx hb d_M_at_197 rfl ?_
      refine va_put (D := (dC, dI)) (ci := 2) (v := .long v1.toInt64) (ty := .long) (C := RM) (T := TM) (N := 15) hx hb hts i_M tyM tyM_ok nmM hown hK hP hD hS 0 rfl rfl 11 (by decide) (hts _ m_387) (fun _ h9 => h9) rfl (by decide +kernel) rfl rfl (Nat.le_of_ble_eq_true rfl) d_M_at_198 (fun H locs hP hD hS => ?_)
      have hP : va_P (dC, dI) vwCl [(h 0, .inr (2, [.int (MS.code st), .int (MS.lines st), .ref (h 1), .int (MS.cuts st), .ref (h 2), .ref (h 3), .int (MS.curves st), .ref (h 4), .ref (h 5), .long (MS.up st), .long (MS.down st), .long v1.toInt64, .long (MS.xd st), .int (MS.strip st), .int (MS.place st)])), (h 1, .inl (k 1, 18, .inl (MS.num st))), (h 2, .inl (k 2, 24, .inr (.inl (MS.cu st)))), (h 3, .inl (k 3, 24, .inr (.inl (MS.cd st)))), (h 4, .inl (k 4, 6, .inr (.inl (MS.yu st)))), (h 5, .inl (k 5, 6, .inr (.inl (MS.yd st))))] H := hP
      have hD : va_D A [(h 0, .inr (2, [.int (MS.code st), .int (MS.lines st), .ref (h 1), .int (MS.cuts st), .ref (h 2), .ref (h 3), .int (MS.curves st), .ref (h 4), .ref (h 5), .long (MS.up st), .long (MS.down st), .long v1.toInt64, .long (MS.xd st), .int (MS.strip st), .int (MS.place st)])), (h 1, .inl (k 1, 18, .inl (MS.num st))), (h 2, .inl (k 2, 24, .inr (.inl (MS.cu st)))), (h 3, .inl (k 3, 24, .inr (.inl (MS.cd st)))), (h 4, .inl (k 4, 6, .inr (.inl (MS.yu st)))), (h 5, .inl (k 5, 6, .inr (.inl (MS.yd st))))] := hD
      refine lv_aload_n hx hb d_M_at_201 rfl (lv_at hl 0 rfl) ?_
      refine lv_iload_n hx hb d_M_at_202 rfl (lv_at hl 2 rfl) ?_
      refine lv_i2l (v := v2.toInt64) hx hb d_M_at_203 rfl ?_
      refine va_put (D := (dC, dI)) (ci := 2) (v := .long v2.toInt64) (ty := .long) (C := RM) (T := TM) (N := 15) hx hb hts i_M tyM tyM_ok nmM hown hK hP hD hS 0 rfl rfl 12 (by decide) (hts _ m_388) (fun _ h9 => h9) rfl (by decide +kernel) rfl rfl (Nat.le_of_ble_eq_true rfl) d_M_at_204 (fun H locs hP hD hS => ?_)
      have hP : va_P (dC, dI) vwCl [(h 0, .inr (2, [.int (MS.code st), .int (MS.lines st), .ref (h 1), .int (MS.cuts st), .ref (h 2), .ref (h 3), .int (MS.curves st), .ref (h 4), .ref (h 5), .long (MS.up st), .long (MS.down st), .long v1.toInt64, .long v2.toInt64, .int (MS.strip st), .int (MS.place st)])), (h 1, .inl (k 1, 18, .inl (MS.num st))), (h 2, .inl (k 2, 24, .inr (.inl (MS.cu st)))), (h 3, .inl (k 3, 24, .inr (.inl (MS.cd st)))), (h 4, .inl (k 4, 6, .inr (.inl (MS.yu st)))), (h 5, .inl (k 5, 6, .inr (.inl (MS.yd st))))] H := hP
      have hD : va_D A [(h 0, .inr (2, [.int (MS.code st), .int (MS.lines st), .ref (h 1), .int (MS.cuts st), .ref (h 2), .ref (h 3), .int (MS.curves st), .ref (h 4), .ref (h 5), .long (MS.up st), .long (MS.down st), .long v1.toInt64, .long v2.toInt64, .int (MS.strip st), .int (MS.place st)])), (h 1, .inl (k 1, 18, .inl (MS.num st))), (h 2, .inl (k 2, 24, .inr (.inl (MS.cu st)))), (h 3, .inl (k 3, 24, .inr (.inl (MS.cd st)))), (h 4, .inl (k 4, 6, .inr (.inl (MS.yu st)))), (h 5, .inl (k 5, 6, .inr (.inl (MS.yd st))))] := hD
      refine lv_aload_n hx hb d_M_at_207 rfl (lv_at hl 0 rfl) ?_
      have hP : va_P (dC, dI) vwCl (WM h k ((MS.code st), (MS.lines st), (MS.num st), (MS.cuts st), (MS.cu st), (MS.cd st), (MS.curves st), (MS.yu st), (MS.yd st), (MS.up st), (MS.down st), v1.toInt64, v2.toInt64, (MS.strip st), (MS.place st))) _ := hP
      have hD : va_D A (WM h k ((MS.code st), (MS.lines st), (MS.num st), (MS.cuts st), (MS.cu st), (MS.cd st), (MS.curves st), (MS.yu st), (MS.yd st), (MS.up st), (MS.down st), v1.toInt64, v2.toInt64, (MS.strip st), (MS.place st))) := hD
      have hFc := va_freeA hD hS hA
      refine va_callv (va_runV (As := []) (rest := []) ⟨hx, hb, hml, hown, hts⟩ (t_M_findCurves l dC dI h k _ ((MS.code st), (MS.lines st), (MS.num st), (MS.cuts st), (MS.cu st), (MS.cd st), (MS.curves st), (MS.yu st), (MS.yd st), (MS.up st), (MS.down st), v1.toInt64, v2.toInt64, (MS.strip st), (MS.place st))  hw) (cwV 0 hts (gV m_476 m_478 s_21 m_5 (cw_call m_479)) rfl rfl rfl (by decide +kernel) ⟨Nat.le_of_ble_eq_true rfl, Nat.le_of_ble_eq_true rfl⟩) ⟨pRw_bl, va_recv hK hP (ci := 2) (q0 := 0) rfl rfl, fun U hU hW => ⟨rfl, pRw_at hP hK hN hD hU hW⟩⟩ rfl rfl hl.1 rfl (lv_room (Nat.le_of_ble_eq_true rfl)) d_M_at_208 ⟨Nat.le_of_ble_eq_true rfl, Nat.le_of_ble_eq_true rfl⟩) hS (fun q _ h => hFc q h) hFc (fun u20 t H1 locs ht hvm hw hB hz1 hk1 hS => ?_)
      obtain ⟨hP1, hD1⟩ := hB
      rw [ht] at hP1
      have hP := hP1
      have hD := hD1.weaken (fun _ q _ h => hFc q.1 h)
      generalize H1 = H at hP hS ⊢
      have hP : va_P (dC, dI) vwCl (WM h k u20) H := hP
      have hD : va_D A (WM h k u20) := hD
      refine lv_aload_n hx hb d_M_at_211 rfl (lv_at hl 0 rfl) ?_
      refine lv_iload_n hx hb d_M_at_212 rfl (lv_at hl 3 rfl) ?_
      refine lv_i2l (v := v3.toInt64) hx hb d_M_at_213 rfl ?_
      refine lv_iload hx hb d_M_at_214 (lv_at hl 4 rfl) ?_
      refine lv_i2l (v := v4.toInt64) hx hb d_M_at_216 rfl ?_
      have hFc := va_freeA hD hS hA
      refine va_callv (va_runV (As := [.long v3.toInt64, .long v4.toInt64]) (rest := []) ⟨hx, hb, hml, hown, hts⟩ (t_M_lowest l dC dI h k _ u20 v3.toInt64 v4.toInt64 hw) (cwV 2 hts (gV m_439 m_441 s_17 m_5 (cw_call m_442)) rfl rfl rfl (by decide +kernel) ⟨Nat.le_of_ble_eq_true rfl, Nat.le_of_ble_eq_true rfl⟩) ⟨pRw_bl, va_recv hK hP (ci := 2) (q0 := 0) rfl rfl, fun U hU hW => ⟨rfl, pRw_at hP hK hN hD hU hW⟩⟩ rfl rfl hl.1 rfl (lv_room (Nat.le_of_ble_eq_true rfl)) d_M_at_217 ⟨Nat.le_of_ble_eq_true rfl, Nat.le_of_ble_eq_true rfl⟩) hS (fun q _ h => hFc q h) hFc (fun u21 t H1 locs ht hvm hw hB hz1 hk1 hS => ?_)
      obtain ⟨hP1, hD1⟩ := hB
      rw [ht] at hP1
      have hP := hP1
      have hD := hD1.weaken (fun _ q _ h => hFc q.1 h)
      generalize H1 = H at hP hS ⊢
      have hP : va_P (dC, dI) vwCl (WM h k u21) H := hP
      have hD : va_D A (WM h k u21) := hD
      refine lv_aload_n hx hb d_M_at_220 rfl (lv_at hl 0 rfl) ?_
      refine vp_callSi (va_Run.run (va_runV (As := []) (rest := []) ⟨hx, hb, hml, hown, hts⟩ (t_M_below l dC dI h k u21  hw) (cwV 0 hts (gV m_484 m_486 s_23 m_5 (cw_call m_487)) rfl rfl rfl (by decide +kernel) ⟨Nat.le_of_ble_eq_true rfl, Nat.le_of_ble_eq_true rfl⟩) ⟨pRo_bl, va_recv hK hP (ci := 2) (q0 := 0) rfl rfl, fun U hU hW => ⟨rfl, pRo_at hP hK hN hU hW⟩⟩ rfl rfl hl.1 rfl (lv_room (Nat.le_of_ble_eq_true rfl)) d_M_at_221 ⟨Nat.le_of_ble_eq_true rfl, Nat.le_of_ble_eq_true rfl⟩)) (fun r22 hw => ?_)
      refine lv_istore (lv' := [(7, .int r22), (0, .ref (h 0)), (1, .int v1), (2, .int v2), (3, .int v3), (4, .int v4), (5, .int v5), (6, .int v6)]) hx hb d_M_at_224 hl (by decide) rfl (fun ls hl => ?_)
      refine lv_iload hx hb d_M_at_226 (lv_at hl 0 rfl) ?_
      refine lv_aload_n hx hb d_M_at_228 rfl (lv_at hl 1 rfl) ?_
      refine va_get (D := (dC, dI)) (ci := 2) (v := .int (MS.curves u21)) (C := RM) (T := TM) (N := 15) hx hb hts i_M hown hK hP 0 rfl rfl 6 (by decide) (hts _ m_382) (fun _ h9 => h9) rfl d_M_at_229 ?_
      refine lv_icmp_ge (tgt := 269) hx hb d_M_at_232 (by decide) (fun c23 => ?_) (fun c23 => ?_)
      · skip
        have hw := hw.1 c23
        refine lv_iconst (v := 0) hx hb d_M_at_269 (by decide) ?_
        refine lv_istore (lv' := [(8, .int 0), (7, .int r22), (0, .ref (h 0)), (1, .int v1), (2, .int v2), (3, .int v3), (4, .int v4), (5, .int v5), (6, .int v6)]) hx hb d_M_at_270 hl (by decide) rfl (fun ls hl => ?_)
        refine lv_iload hx hb d_M_at_272 (lv_at hl 8 rfl) ?_
        refine lv_iconst (v := 2) hx hb d_M_at_274 (by decide) ?_
        refine lv_iload hx hb d_M_at_275 (lv_at hl 1 rfl) ?_
        refine lv_imul hx hb d_M_at_277 ?_
        refine lv_iadd hx hb d_M_at_278 ?_
        refine lv_iload hx hb d_M_at_279 (lv_at hl 0 rfl) ?_
        refine lv_if_eq (tgt := 288) hx hb d_M_at_281 (by decide) (fun _ => ?_) (fun cz => absurd (by decide) cz)
        refine lv_iconst (v := 0) hx hb d_M_at_288 (by decide) ?_
        refine lv_iadd hx hb d_M_at_289 ?_
        exact W.iret (v := ((v6 + (2 * r22)) + 0)) hx hb hr (fun t ht hW => ⟨⟨((v6 + (2 * r22)) + 0), u21, rfl, hw, by rw [ht]; exact hP, hD⟩, hS.F ht⟩) hS.2.2 d_M_at_290
      · skip
        have hw := hw.2 c23
        refine lv_aload_n hx hb d_M_at_235 rfl (lv_at hl 1 rfl) ?_
        refine va_get (D := (dC, dI)) (ci := 2) (v := .ref (h 4)) (C := RM) (T := TM) (N := 15) hx hb hts i_M hown hK hP 0 rfl rfl 7 (by decide) (hts _ m_383) (fun _ h9 => h9) rfl d_M_at_236 ?_
        refine lv_iload hx hb d_M_at_239 (lv_at hl 0 rfl) ?_
        obtain ⟨h24, hw⟩ := hw
        refine va_lald hx hb hK hP 4 3 rfl rfl h24 d_M_at_241 ?_
        refine lv_aload_n hx hb d_M_at_242 rfl (lv_at hl 1 rfl) ?_
        refine va_get (D := (dC, dI)) (ci := 2) (v := .long (MS.up u21)) (C := RM) (T := TM) (N := 15) hx hb hts i_M hown hK hP 0 rfl rfl 9 (by decide) (hts _ m_385) (fun _ h9 => h9) rfl d_M_at_243 ?_
        refine W.lcmp hx hb d_M_at_246 ?_
        refine lv_if_ne (tgt := 269) hx hb d_M_at_247 (by decide) (fun c25 => ?_) (fun c25 => ?_)
        · have c25 : ¬ ((MS.yu u21) r22.toNatClampNeg) = (MS.up u21) := (fun q => c25 (lgc_eq.mpr q))
          have hw := hw.1 c25
          refine lv_iconst (v := 0) hx hb d_M_at_269 (by decide) ?_
          refine lv_istore (lv' := [(8, .int 0), (7, .int r22), (0, .ref (h 0)), (1, .int v1), (2, .int v2), (3, .int v3), (4, .int v4), (5, .int v5), (6, .int v6)]) hx hb d_M_at_270 hl (by decide) rfl (fun ls hl => ?_)
          refine lv_iload hx hb d_M_at_272 (lv_at hl 8 rfl) ?_
          refine lv_iconst (v := 2) hx hb d_M_at_274 (by decide) ?_
          refine lv_iload hx hb d_M_at_275 (lv_at hl 1 rfl) ?_
          refine lv_imul hx hb d_M_at_277 ?_
          refine lv_iadd hx hb d_M_at_278 ?_
          refine lv_iload hx hb d_M_at_279 (lv_at hl 0 rfl) ?_
          refine lv_if_eq (tgt := 288) hx hb d_M_at_281 (by decide) (fun _ => ?_) (fun cz => absurd (by decide) cz)
          refine lv_iconst (v := 0) hx hb d_M_at_288 (by decide) ?_
          refine lv_iadd hx hb d_M_at_289 ?_
          exact W.iret (v := ((v6 + (2 * r22)) + 0)) hx hb hr (fun t ht hW => ⟨⟨((v6 + (2 * r22)) + 0), u21, rfl, hw, by rw [ht]; exact hP, hD⟩, hS.F ht⟩) hS.2.2 d_M_at_290
        · have c25 : ((MS.yu u21) r22.toNatClampNeg) = (MS.up u21) := (lgc_eq.mp c25)
          have hw := hw.2 c25
          refine lv_aload_n hx hb d_M_at_250 rfl (lv_at hl 1 rfl) ?_
          refine va_get (D := (dC, dI)) (ci := 2) (v := .ref (h 5)) (C := RM) (T := TM) (N := 15) hx hb hts i_M hown hK hP 0 rfl rfl 8 (by decide) (hts _ m_384) (fun _ h9 => h9) rfl d_M_at_251 ?_
          refine lv_iload hx hb d_M_at_254 (lv_at hl 0 rfl) ?_
          refine va_lald hx hb hK hP 5 4 rfl rfl h24 d_M_at_256 ?_
          refine lv_aload_n hx hb d_M_at_257 rfl (lv_at hl 1 rfl) ?_
          refine va_get (D := (dC, dI)) (ci := 2) (v := .long (MS.down u21)) (C := RM) (T := TM) (N := 15) hx hb hts i_M hown hK hP 0 rfl rfl 10 (by decide) (hts _ m_386) (fun _ h9 => h9) rfl d_M_at_258 ?_
          refine W.lcmp hx hb d_M_at_261 ?_
          refine lv_if_ne (tgt := 269) hx hb d_M_at_262 (by decide) (fun c26 => ?_) (fun c26 => ?_)
          · have c26 : ¬ ((MS.yd u21) r22.toNatClampNeg) = (MS.down u21) := (fun q => c26 (lgc_eq.mpr q))
            have hw := hw.1 c26
            refine lv_iconst (v := 0) hx hb d_M_at_269 (by decide) ?_
            refine lv_istore (lv' := [(8, .int 0), (7, .int r22), (0, .ref (h 0)), (1, .int v1), (2, .int v2), (3, .int v3), (4, .int v4), (5, .int v5), (6, .int v6)]) hx hb d_M_at_270 hl (by decide) rfl (fun ls hl => ?_)
            refine lv_iload hx hb d_M_at_272 (lv_at hl 8 rfl) ?_
            refine lv_iconst (v := 2) hx hb d_M_at_274 (by decide) ?_
            refine lv_iload hx hb d_M_at_275 (lv_at hl 1 rfl) ?_
            refine lv_imul hx hb d_M_at_277 ?_
            refine lv_iadd hx hb d_M_at_278 ?_
            refine lv_iload hx hb d_M_at_279 (lv_at hl 0 rfl) ?_
            refine lv_if_eq (tgt := 288) hx hb d_M_at_281 (by decide) (fun _ => ?_) (fun cz => absurd (by decide) cz)
            refine lv_iconst (v := 0) hx hb d_M_at_288 (by decide) ?_
            refine lv_iadd hx hb d_M_at_289 ?_
            exact W.iret (v := ((v6 + (2 * r22)) + 0)) hx hb hr (fun t ht hW => ⟨⟨((v6 + (2 * r22)) + 0), u21, rfl, hw, by rw [ht]; exact hP, hD⟩, hS.F ht⟩) hS.2.2 d_M_at_290
          · have c26 : ((MS.yd u21) r22.toNatClampNeg) = (MS.down u21) := (lgc_eq.mp c26)
            have hw := hw.2 c26
            refine lv_iconst (v := 1) hx hb d_M_at_265 (by decide) ?_
            refine lv_goto (tgt := 270) hx hb d_M_at_266 (by decide) ?_
            refine lv_istore (lv' := [(8, .int 1), (7, .int r22), (0, .ref (h 0)), (1, .int v1), (2, .int v2), (3, .int v3), (4, .int v4), (5, .int v5), (6, .int v6)]) hx hb d_M_at_270 hl (by decide) rfl (fun ls hl => ?_)
            refine lv_iload hx hb d_M_at_272 (lv_at hl 8 rfl) ?_
            refine lv_iconst (v := 2) hx hb d_M_at_274 (by decide) ?_
            refine lv_iload hx hb d_M_at_275 (lv_at hl 1 rfl) ?_
            refine lv_imul hx hb d_M_at_277 ?_
            refine lv_iadd hx hb d_M_at_278 ?_
            refine lv_iload hx hb d_M_at_279 (lv_at hl 0 rfl) ?_
            refine lv_if_eq (tgt := 288) hx hb d_M_at_281 (by decide) (fun cz => absurd cz (by decide)) (fun _ => ?_)
            refine lv_iconst (v := 1) hx hb d_M_at_284 (by decide) ?_
            refine lv_goto (tgt := 289) hx hb d_M_at_285 (by decide) ?_
            refine lv_iadd hx hb d_M_at_289 ?_
            exact W.iret (v := ((v6 + (2 * r22)) + 1)) hx hb hr (fun t ht hW => ⟨⟨((v6 + (2 * r22)) + 1), u21, rfl, hw, by rw [ht]; exact hP, hD⟩, hS.F ht⟩) hS.2.2 d_M_at_290
    · skip
      have hw := hw.2 c19
      refine lv_aload_n hx hb d_M_at_170 rfl (lv_at hl 0 rfl) ?_
      refine lv_iload hx hb d_M_at_171 (lv_at hl 7 rfl) ?_
      have hFc := va_freeA hD hS hA
      refine va_callv (va_runV (As := [.int v7]) (rest := []) ⟨hx, hb, hml, hown, hts⟩ (t_M_curvesOf l dC dI h k _ st v7 hw) (cwV 1 hts (gV m_467 m_469 s_19 m_5 (cw_call m_470)) rfl rfl rfl (by decide +kernel) ⟨Nat.le_of_ble_eq_true rfl, Nat.le_of_ble_eq_true rfl⟩) ⟨pRw_bl, va_recv hK hP (ci := 2) (q0 := 0) rfl rfl, fun U hU hW => ⟨rfl, pRw_at hP hK hN hD hU hW⟩⟩ rfl rfl hl.1 rfl (lv_room (Nat.le_of_ble_eq_true rfl)) d_M_at_173 ⟨Nat.le_of_ble_eq_true rfl, Nat.le_of_ble_eq_true rfl⟩) hS (fun q _ h => hFc q h) hFc (fun u27 t H1 locs ht hvm hw hB hz1 hk1 hS => ?_)
      obtain ⟨hP1, hD1⟩ := hB
      rw [ht] at hP1
      have hP := hP1
      have hD := hD1.weaken (fun _ q _ h => hFc q.1 h)
      generalize H1 = H at hP hS ⊢
      have hP : va_P (dC, dI) vwCl (WM h k u27) H := hP
      have hD : va_D A (WM h k u27) := hD
      refine lv_iload hx hb d_M_at_176 (lv_at hl 6 rfl) ?_
      refine lv_iconst (v := 2) hx hb d_M_at_178 (by decide) ?_
      refine lv_aload_n hx hb d_M_at_179 rfl (lv_at hl 0 rfl) ?_
      refine va_get (D := (dC, dI)) (ci := 2) (v := .int (MS.curves u27)) (C := RM) (T := TM) (N := 15) hx hb hts i_M hown hK hP 0 rfl rfl 6 (by decide) (hts _ m_382) (fun _ h9 => h9) rfl d_M_at_180 ?_
      refine lv_imul hx hb d_M_at_183 ?_
      refine lv_iconst (v := 1) hx hb d_M_at_184 (by decide) ?_
      refine lv_iadd hx hb d_M_at_185 ?_
      refine lv_iadd hx hb d_M_at_186 ?_
      refine lv_topi (fun y28 ey28 => ?_)
      have hw := hw y28 ey28
      refine lv_istore (lv' := [(6, .int y28), (0, .ref (h 0)), (1, .int v1), (2, .int v2), (3, .int v3), (4, .int v4), (5, .int v5), (7, .int v7)]) hx hb d_M_at_187 hl (by decide) rfl (fun ls hl => ?_)
      refine lv_iinc (v := (v7 + 1)) (lv' := [(7, .int (v7 + 1)), (6, .int y28), (0, .ref (h 0)), (1, .int v1), (2, .int v2), (3, .int v3), (4, .int v4), (5, .int v5)]) hx hb d_M_at_189 hl (k := 7) rfl rfl (by decide) rfl (fun ls hl => ?_)
      refine lv_goto (tgt := 163) hx hb d_M_at_192 (by decide) ?_
      exact ih u27 v1 v2 v3 v4 v5 y28 (v7 + 1) _ _ hP hD hS ls (lv_sub hl [2, 3, 4, 5, 6, 7, 1, 0] rfl) hw
def w_M_at_74 (post : Int32 → MS → Prop) : Nat → MS → Int32 → Int32 → Int32 → Int32 → Int32 → Prop
  | 0, _, _, _, _, _, _ => False
  | n + 1, st, v1, v2, v3, v4, v5 => ((2 * (MS.cuts st)) ≤ v5 → (∃ z, w_M_at_163 post z st v1 v2 v3 v4 v5 0 0)) ∧ (¬ (2 * (MS.cuts st)) ≤ v5 → ((¬ (v5 - v5 / 2 * 2) = 0 → (vp_in (v5 / 2) 24 ∧ (((v1.toInt64 * ((MS.cd st) (v5 / 2).toNatClampNeg)) ≤ (((MS.cu st) (v5 / 2).toNatClampNeg) * v2.toInt64) → (∃ z, w_M_at_163 post z st v1 v2 v3 v4 v5 0 0)) ∧ (¬ (v1.toInt64 * ((MS.cd st) (v5 / 2).toNatClampNeg)) ≤ (((MS.cu st) (v5 / 2).toNatClampNeg) * v2.toInt64) → (w_M_at_74 post n st v1 v2 v3 v4 (v5 + 1)))))) ∧ ((v5 - v5 / 2 * 2) = 0 → (vp_in (v5 / 2) 24 ∧ (((v1.toInt64 * ((MS.cd st) (v5 / 2).toNatClampNeg)) < (((MS.cu st) (v5 / 2).toNatClampNeg) * v2.toInt64) → (∃ z, w_M_at_163 post z st v1 v2 v3 v4 v5 0 0)) ∧ (¬ (v1.toInt64 * ((MS.cd st) (v5 / 2).toNatClampNeg)) < (((MS.cu st) (v5 / 2).toNatClampNeg) * v2.toInt64) → (w_M_at_74 post n st v1 v2 v3 v4 (v5 + 1))))))))
set_option maxHeartbeats 4000000 in
set_option maxRecDepth 100000 in
theorem k_M_at_74 {p : Program} {l : Launch} {e : Env} {s : State} {m : MethodId} {args : Array Value} {below : List Frame} {meth : Method} {c : Code} {dC : Nat → ClassId} {dI : Nat → Nat → Nat} {h : Nat → Nat} {k : Nat → ClassId} {A : Nat → Prop} {post : Int32 → MS → Prop} (C0 : cxt p s m args meth c prog_4_method_27_code 9 RM (some .int)) (hK : va_K (dC, dI) vwCl (YM k) s) (hN : va_Nw nestW s) (hA : ∀ q, s.heap.size ≤ q → A q) : ∀ (n : Nat), ∀ (st : MS) (v1 : Int32) (v2 : Int32) (v3 : Int32) (v4 : Int32) (v5 : Int32) (H : Heap) (locs : List Loc), va_P (dC, dI) vwCl (WM h k st) H → va_D A (WM h k st) → va_S A s.heap H locs → ∀ ls, lv_has ls 9 [(0, .ref (h 0)), (1, .int v1), (2, .int v2), (3, .int v3), (4, .int v4), (5, .int v5)] → w_M_at_74 post n st v1 v2 v3 v4 v5 → W p l e ({ frames := 4, cells := 0, slots := 0, locals := 95 } : Room) s m args below meth c H locs 0 0 (MQ below (va_Qi post (fun u t => va_P (dC, dI) vwCl (WM h k u) t.heap ∧ va_D A (WM h k u)) A) args s 0 0 A) (F0 m 74 ls []) := by
  obtain ⟨hx, hb, hr, hml, hown, hts, hlocks⟩ := id C0
  intro n
  induction n with
  | zero =>
    intro st v1 v2 v3 v4 v5 H locs hP hD hS ls hl hw
    exact False.elim hw
  | succ n ih =>
    intro st v1 v2 v3 v4 v5 H locs hP hD hS ls hl hw
    rw [w_M_at_74] at hw
    refine lv_iload hx hb d_M_at_74 (lv_at hl 5 rfl) ?_
    refine lv_iconst (v := 2) hx hb d_M_at_76 (by decide) ?_
    refine lv_aload_n hx hb d_M_at_77 rfl (lv_at hl 0 rfl) ?_
    refine va_get (D := (dC, dI)) (ci := 2) (v := .int (MS.cuts st)) (C := RM) (T := TM) (N := 15) hx hb hts i_M hown hK hP 0 rfl rfl 3 (by decide) (hts _ m_379) (fun _ h9 => h9) rfl d_M_at_78 ?_
    refine lv_imul hx hb d_M_at_81 ?_
    refine lv_icmp_ge (tgt := 157) hx hb d_M_at_82 (by decide) (fun c10 => ?_) (fun c10 => ?_)
    · skip
      have hw := hw.1 c10
      refine lv_iconst (v := 0) hx hb d_M_at_157 (by decide) ?_
      refine lv_istore (lv' := [(6, .int 0), (0, .ref (h 0)), (1, .int v1), (2, .int v2), (3, .int v3), (4, .int v4), (5, .int v5)]) hx hb d_M_at_158 hl (by decide) rfl (fun ls hl => ?_)
      refine lv_iconst (v := 0) hx hb d_M_at_160 (by decide) ?_
      refine lv_istore (lv' := [(7, .int 0), (6, .int 0), (0, .ref (h 0)), (1, .int v1), (2, .int v2), (3, .int v3), (4, .int v4), (5, .int v5)]) hx hb d_M_at_161 hl (by decide) rfl (fun ls hl => ?_)
      obtain ⟨n11, hw⟩ := hw
      exact k_M_at_163 C0 hK hN hA n11 st v1 v2 v3 v4 v5 0 0 _ _ hP hD hS ls (lv_sub hl [2, 3, 4, 5, 6, 7, 1, 0] rfl) hw
    · skip
      have hw := hw.2 c10
      refine lv_iload hx hb d_M_at_85 (lv_at hl 5 rfl) ?_
      refine lv_iconst (v := 2) hx hb d_M_at_87 (by decide) ?_
      refine lv_irem hx hb d_M_at_88 (by decide) ?_
      refine lv_if_ne (tgt := 123) hx hb d_M_at_89 (by decide) (fun c12 => ?_) (fun c12 => ?_)
      · skip
        have hw := hw.1 c12
        refine lv_aload_n hx hb d_M_at_123 rfl (lv_at hl 0 rfl) ?_
        refine va_get (D := (dC, dI)) (ci := 2) (v := .ref (h 2)) (C := RM) (T := TM) (N := 15) hx hb hts i_M hown hK hP 0 rfl rfl 4 (by decide) (hts _ m_380) (fun _ h9 => h9) rfl d_M_at_124 ?_
        refine lv_iload hx hb d_M_at_127 (lv_at hl 5 rfl) ?_
        refine lv_iconst (v := 2) hx hb d_M_at_129 (by decide) ?_
        refine lv_idiv hx hb d_M_at_130 (by decide) ?_
        obtain ⟨h13, hw⟩ := hw
        refine va_lald hx hb hK hP 2 1 rfl rfl h13 d_M_at_131 ?_
        refine lv_iload_n hx hb d_M_at_132 rfl (lv_at hl 2 rfl) ?_
        refine lv_i2l (v := v2.toInt64) hx hb d_M_at_133 rfl ?_
        refine lv_lmul hx hb d_M_at_134 ?_
        refine lv_iload_n hx hb d_M_at_135 rfl (lv_at hl 1 rfl) ?_
        refine lv_i2l (v := v1.toInt64) hx hb d_M_at_136 rfl ?_
        refine lv_aload_n hx hb d_M_at_137 rfl (lv_at hl 0 rfl) ?_
        refine va_get (D := (dC, dI)) (ci := 2) (v := .ref (h 3)) (C := RM) (T := TM) (N := 15) hx hb hts i_M hown hK hP 0 rfl rfl 5 (by decide) (hts _ m_381) (fun _ h9 => h9) rfl d_M_at_138 ?_
        refine lv_iload hx hb d_M_at_141 (lv_at hl 5 rfl) ?_
        refine lv_iconst (v := 2) hx hb d_M_at_143 (by decide) ?_
        refine lv_idiv hx hb d_M_at_144 (by decide) ?_
        refine va_lald hx hb hK hP 3 2 rfl rfl h13 d_M_at_145 ?_
        refine lv_lmul hx hb d_M_at_146 ?_
        refine W.lcmp hx hb d_M_at_147 ?_
        refine lv_if_ge (tgt := 157) hx hb d_M_at_148 (by decide) (fun c14 => ?_) (fun c14 => ?_)
        · have c14 : (v1.toInt64 * ((MS.cd st) (v5 / 2).toNatClampNeg)) ≤ (((MS.cu st) (v5 / 2).toNatClampNeg) * v2.toInt64) := (lgc_ge.mp c14)
          have hw := hw.1 c14
          refine lv_iconst (v := 0) hx hb d_M_at_157 (by decide) ?_
          refine lv_istore (lv' := [(6, .int 0), (0, .ref (h 0)), (1, .int v1), (2, .int v2), (3, .int v3), (4, .int v4), (5, .int v5)]) hx hb d_M_at_158 hl (by decide) rfl (fun ls hl => ?_)
          refine lv_iconst (v := 0) hx hb d_M_at_160 (by decide) ?_
          refine lv_istore (lv' := [(7, .int 0), (6, .int 0), (0, .ref (h 0)), (1, .int v1), (2, .int v2), (3, .int v3), (4, .int v4), (5, .int v5)]) hx hb d_M_at_161 hl (by decide) rfl (fun ls hl => ?_)
          obtain ⟨n15, hw⟩ := hw
          exact k_M_at_163 C0 hK hN hA n15 st v1 v2 v3 v4 v5 0 0 _ _ hP hD hS ls (lv_sub hl [2, 3, 4, 5, 6, 7, 1, 0] rfl) hw
        · have c14 : ¬ (v1.toInt64 * ((MS.cd st) (v5 / 2).toNatClampNeg)) ≤ (((MS.cu st) (v5 / 2).toNatClampNeg) * v2.toInt64) := (fun q => c14 (lgc_ge.mpr q))
          have hw := hw.2 c14
          refine lv_iinc (v := (v5 + 1)) (lv' := [(5, .int (v5 + 1)), (0, .ref (h 0)), (1, .int v1), (2, .int v2), (3, .int v3), (4, .int v4)]) hx hb d_M_at_151 hl (k := 5) rfl rfl (by decide) rfl (fun ls hl => ?_)
          refine lv_goto (tgt := 74) hx hb d_M_at_154 (by decide) ?_
          exact ih st v1 v2 v3 v4 (v5 + 1) _ _ hP hD hS ls (lv_sub hl [1, 2, 3, 4, 5, 0] rfl) hw
      · skip
        have hw := hw.2 c12
        refine lv_aload_n hx hb d_M_at_92 rfl (lv_at hl 0 rfl) ?_
        refine va_get (D := (dC, dI)) (ci := 2) (v := .ref (h 2)) (C := RM) (T := TM) (N := 15) hx hb hts i_M hown hK hP 0 rfl rfl 4 (by decide) (hts _ m_380) (fun _ h9 => h9) rfl d_M_at_93 ?_
        refine lv_iload hx hb d_M_at_96 (lv_at hl 5 rfl) ?_
        refine lv_iconst (v := 2) hx hb d_M_at_98 (by decide) ?_
        refine lv_idiv hx hb d_M_at_99 (by decide) ?_
        obtain ⟨h16, hw⟩ := hw
        refine va_lald hx hb hK hP 2 1 rfl rfl h16 d_M_at_100 ?_
        refine lv_iload_n hx hb d_M_at_101 rfl (lv_at hl 2 rfl) ?_
        refine lv_i2l (v := v2.toInt64) hx hb d_M_at_102 rfl ?_
        refine lv_lmul hx hb d_M_at_103 ?_
        refine lv_iload_n hx hb d_M_at_104 rfl (lv_at hl 1 rfl) ?_
        refine lv_i2l (v := v1.toInt64) hx hb d_M_at_105 rfl ?_
        refine lv_aload_n hx hb d_M_at_106 rfl (lv_at hl 0 rfl) ?_
        refine va_get (D := (dC, dI)) (ci := 2) (v := .ref (h 3)) (C := RM) (T := TM) (N := 15) hx hb hts i_M hown hK hP 0 rfl rfl 5 (by decide) (hts _ m_381) (fun _ h9 => h9) rfl d_M_at_107 ?_
        refine lv_iload hx hb d_M_at_110 (lv_at hl 5 rfl) ?_
        refine lv_iconst (v := 2) hx hb d_M_at_112 (by decide) ?_
        refine lv_idiv hx hb d_M_at_113 (by decide) ?_
        refine va_lald hx hb hK hP 3 2 rfl rfl h16 d_M_at_114 ?_
        refine lv_lmul hx hb d_M_at_115 ?_
        refine W.lcmp hx hb d_M_at_116 ?_
        refine lv_if_gt (tgt := 157) hx hb d_M_at_117 (by decide) (fun c17 => ?_) (fun c17 => ?_)
        · have c17 : (v1.toInt64 * ((MS.cd st) (v5 / 2).toNatClampNeg)) < (((MS.cu st) (v5 / 2).toNatClampNeg) * v2.toInt64) := (lgc_gt.mp c17)
          have hw := hw.1 c17
          refine lv_iconst (v := 0) hx hb d_M_at_157 (by decide) ?_
          refine lv_istore (lv' := [(6, .int 0), (0, .ref (h 0)), (1, .int v1), (2, .int v2), (3, .int v3), (4, .int v4), (5, .int v5)]) hx hb d_M_at_158 hl (by decide) rfl (fun ls hl => ?_)
          refine lv_iconst (v := 0) hx hb d_M_at_160 (by decide) ?_
          refine lv_istore (lv' := [(7, .int 0), (6, .int 0), (0, .ref (h 0)), (1, .int v1), (2, .int v2), (3, .int v3), (4, .int v4), (5, .int v5)]) hx hb d_M_at_161 hl (by decide) rfl (fun ls hl => ?_)
          obtain ⟨n18, hw⟩ := hw
          exact k_M_at_163 C0 hK hN hA n18 st v1 v2 v3 v4 v5 0 0 _ _ hP hD hS ls (lv_sub hl [2, 3, 4, 5, 6, 7, 1, 0] rfl) hw
        · have c17 : ¬ (v1.toInt64 * ((MS.cd st) (v5 / 2).toNatClampNeg)) < (((MS.cu st) (v5 / 2).toNatClampNeg) * v2.toInt64) := (fun q => c17 (lgc_gt.mpr q))
          have hw := hw.2 c17
          refine lv_goto (tgt := 151) hx hb d_M_at_120 (by decide) ?_
          refine lv_iinc (v := (v5 + 1)) (lv' := [(5, .int (v5 + 1)), (0, .ref (h 0)), (1, .int v1), (2, .int v2), (3, .int v3), (4, .int v4)]) hx hb d_M_at_151 hl (k := 5) rfl rfl (by decide) rfl (fun ls hl => ?_)
          refine lv_goto (tgt := 74) hx hb d_M_at_154 (by decide) ?_
          exact ih st v1 v2 v3 v4 (v5 + 1) _ _ hP hD hS ls (lv_sub hl [1, 2, 3, 4, 5, 0] rfl) hw
def w_M_at (st : MS) (post : Int32 → MS → Prop) (p0 : Int32) (p1 : Int32) (p2 : Int32) (p3 : Int32) : Prop := w_M_in (fun r1 => ((r1 = 0 → (post 0 (1, (MS.lines st), (MS.num st), (MS.cuts st), (MS.cu st), (MS.cd st), (MS.curves st), (MS.yu st), (MS.yd st), (MS.up st), (MS.down st), (MS.xu st), (MS.xd st), (MS.strip st), (MS.place st)))) ∧ (¬ r1 = 0 → (w_M_in (fun r3 => ((r3 = 0 → (post 0 (1, (MS.lines st), (MS.num st), (MS.cuts st), (MS.cu st), (MS.cd st), (MS.curves st), (MS.yu st), (MS.yd st), (MS.up st), (MS.down st), (MS.xu st), (MS.xd st), (MS.strip st), (MS.place st)))) ∧ (¬ r3 = 0 → (w_M_in (fun r5 => ((r5 = 0 → (post 0 (1, (MS.lines st), (MS.num st), (MS.cuts st), (MS.cu st), (MS.cd st), (MS.curves st), (MS.yu st), (MS.yd st), (MS.up st), (MS.down st), (MS.xu st), (MS.xd st), (MS.strip st), (MS.place st)))) ∧ (¬ r5 = 0 → (w_M_in (fun r7 => ((r7 = 0 → (post 0 (1, (MS.lines st), (MS.num st), (MS.cuts st), (MS.cu st), (MS.cd st), (MS.curves st), (MS.yu st), (MS.yd st), (MS.up st), (MS.down st), (MS.xu st), (MS.xd st), (MS.strip st), (MS.place st)))) ∧ (¬ r7 = 0 → (∃ z, w_M_at_74 post z (0, (MS.lines st), (MS.num st), (MS.cuts st), (MS.cu st), (MS.cd st), (MS.curves st), (MS.yu st), (MS.yd st), (MS.up st), (MS.down st), (MS.xu st), (MS.xd st), (MS.strip st), (MS.place st)) p0 p1 p2 p3 0)))) p3.toInt64 (1 : Int64) (100 : Int64))))) p2.toInt64 ((-100) : Int64) (100 : Int64))))) p1.toInt64 (1 : Int64) (100 : Int64))))) p0.toInt64 ((-100) : Int64) (100 : Int64)
set_option maxHeartbeats 4000000 in
set_option maxRecDepth 100000 in
theorem t_M_at (l : Launch) (dC : Nat → ClassId) (dI : Nat → Nat → Nat) (h : Nat → Nat) (k : Nat → ClassId) (sz : Nat) (st : MS) (p0 : Int32) (p1 : Int32) (p2 : Int32) (p3 : Int32) {post : Int32 → MS → Prop} (hw : w_M_at st post p0 p1 p2 p3) : Met l y_M_at (Cond.code y_M_at prog_4_method_27_code 9 (some .int) :: cw) ({ frames := 4, cells := 0, slots := 0, locals := 95 } : Room) (va_Pc [.ref (h 0), .int p0, .int p1, .int p2, .int p3] (pRw (dC, dI) (WM h k st) (YM k) sz)) (va_Qi post (fun u t => va_P (dC, dI) vwCl (WM h k u) t.heap ∧ va_D (va_A (WM h k st) sz) (WM h k u)) (va_A (WM h k st) sz)) 0 0 (va_A (WM h k st) sz) := by
  refine Met.ofW (cc := prog_4_method_27_code) (maxL := 9) (ret := (some .int)) (by decide) rfl ?_
  intro p e s m args below meth c s₁ B hml hv
  obtain ⟨rfl, hsz, hP, hK, hN, hD0⟩ := hv
  have hx := B.exec
  have hb := B.bytes
  have hr := B.returns
  have hts : ∀ w ∈ cw, w.before _ s = true := fun w h => atoms_spec (ws := (Cond.code y_M_at prog_4_method_27_code 9 (some .int) :: cw)) B.pre w (List.mem_cons_of_mem _ h)
  have hown : s.vm.findClass RM = some m.cls := findClass_of_methodNamed B.named
  have hlocks := B.notSynchronized
  have C0 : cxt p s m _ meth c prog_4_method_27_code 9 RM (some .int) := ⟨hx, hb, hr, hml, hown, hts, hlocks⟩
  subst hsz
  have hD := hD0.self (sz := s.heap.size)
  generalize hAe : va_A (WM h k st) s.heap.size = A at hD ⊢
  have hA : ∀ q : Nat, s.heap.size ≤ q → A q := fun q h => by rw [← hAe]; exact Or.inr h
  have hS : va_S A s.heap s.heap [] := va_S.rf
  have hl := lv_entry ([.ref (h 0), .int p0, .int p1, .int p2, .int p3]) (n := 9) (Nat.le_of_ble_eq_true rfl)
  rw [lg_entry_eq]
  generalize (lg_sl ([.ref (h 0), .int p0, .int p1, .int p2, .int p3]) ++ List.replicate (9 - (lg_sl ([.ref (h 0), .int p0, .int p1, .int p2, .int p3])).length) Slot.unset).toArray = ls at hl ⊢
  have hl : lv_has ls 9 [(0, .ref (h 0)), (1, .int p0), (2, .int p1), (3, .int p2), (4, .int p3)] := hl
  unfold w_M_at at hw
  refine lv_aload_n hx hb d_M_at_0 rfl (lv_at hl 0 rfl) ?_
  refine lv_iload_n hx hb d_M_at_1 rfl (lv_at hl 1 rfl) ?_
  refine lv_i2l (v := p0.toInt64) hx hb d_M_at_2 rfl ?_
  refine lv_ldc2 (v := (-100)) hx hb hown (hts _ m_524) d_M_at_3 ?_
  refine lv_ldc2 (v := 100) hx hb hown (hts _ m_525) d_M_at_6 ?_
  refine vp_callSi (va_Run.run (va_runS (As := [.long p0.toInt64, .long (-100), .long 100]) (rest := [.ref (h 0)]) ⟨hx, hb, hml, hown, hts⟩ (t_M_in l p0.toInt64 ((-100) : Int64) (100 : Int64) hw) (va_cwS 3 hts (gS m_432 m_433 m_5 (cw_call m_434)) rfl rfl rfl (by decide +kernel) ⟨Nat.le_of_ble_eq_true rfl, Nat.le_of_ble_eq_true rfl⟩) ⟨pSt_bl, fun U hU hW => ⟨rfl, trivial⟩⟩ rfl rfl hl.1 rfl (lv_room (Nat.le_of_ble_eq_true rfl)) d_M_at_9 ⟨Nat.le_of_ble_eq_true rfl, Nat.le_of_ble_eq_true rfl⟩)) (fun r1 hw => ?_)
  refine lv_if_eq (tgt := 58) hx hb d_M_at_12 (by decide) (fun c2 => ?_) (fun c2 => ?_)
  · skip
    have hw := hw.1 c2
    refine lv_iconst (v := 1) hx hb d_M_at_58 (by decide) ?_
    refine va_put (D := (dC, dI)) (ci := 2) (v := .int 1) (ty := .int) (C := RM) (T := TM) (N := 15) hx hb hts i_M tyM tyM_ok nmM hown hK hP hD hS 0 rfl rfl 0 (by decide) (hts _ m_376) (fun _ h9 => h9) rfl (by decide +kernel) rfl rfl (Nat.le_of_ble_eq_true rfl) d_M_at_59 (fun H locs hP hD hS => ?_)
    have hP : va_P (dC, dI) vwCl [(h 0, .inr (2, [.int 1, .int (MS.lines st), .ref (h 1), .int (MS.cuts st), .ref (h 2), .ref (h 3), .int (MS.curves st), .ref (h 4), .ref (h 5), .long (MS.up st), .long (MS.down st), .long (MS.xu st), .long (MS.xd st), .int (MS.strip st), .int (MS.place st)])), (h 1, .inl (k 1, 18, .inl (MS.num st))), (h 2, .inl (k 2, 24, .inr (.inl (MS.cu st)))), (h 3, .inl (k 3, 24, .inr (.inl (MS.cd st)))), (h 4, .inl (k 4, 6, .inr (.inl (MS.yu st)))), (h 5, .inl (k 5, 6, .inr (.inl (MS.yd st))))] H := hP
    have hD : va_D A [(h 0, .inr (2, [.int 1, .int (MS.lines st), .ref (h 1), .int (MS.cuts st), .ref (h 2), .ref (h 3), .int (MS.curves st), .ref (h 4), .ref (h 5), .long (MS.up st), .long (MS.down st), .long (MS.xu st), .long (MS.xd st), .int (MS.strip st), .int (MS.place st)])), (h 1, .inl (k 1, 18, .inl (MS.num st))), (h 2, .inl (k 2, 24, .inr (.inl (MS.cu st)))), (h 3, .inl (k 3, 24, .inr (.inl (MS.cd st)))), (h 4, .inl (k 4, 6, .inr (.inl (MS.yu st)))), (h 5, .inl (k 5, 6, .inr (.inl (MS.yd st))))] := hD
    refine lv_aload_n hx hb d_M_at_62 rfl (lv_at hl 0 rfl) ?_
    refine va_get (D := (dC, dI)) (ci := 2) (v := .int 1) (C := RM) (T := TM) (N := 15) hx hb hts i_M hown hK hP 0 rfl rfl 0 (by decide) (hts _ m_376) (fun _ h9 => h9) rfl d_M_at_63 ?_
    refine lv_if_le (tgt := 71) hx hb d_M_at_66 (by decide) (fun cz => absurd cz (by decide)) (fun _ => ?_)
    refine lv_iconst (v := 0) hx hb d_M_at_69 (by decide) ?_
    have hP : va_P (dC, dI) vwCl (WM h k (1, (MS.lines st), (MS.num st), (MS.cuts st), (MS.cu st), (MS.cd st), (MS.curves st), (MS.yu st), (MS.yd st), (MS.up st), (MS.down st), (MS.xu st), (MS.xd st), (MS.strip st), (MS.place st))) _ := hP
    have hD : va_D A (WM h k (1, (MS.lines st), (MS.num st), (MS.cuts st), (MS.cu st), (MS.cd st), (MS.curves st), (MS.yu st), (MS.yd st), (MS.up st), (MS.down st), (MS.xu st), (MS.xd st), (MS.strip st), (MS.place st))) := hD
    exact W.iret (v := 0) hx hb hr (fun t ht hW => ⟨⟨0, (1, (MS.lines st), (MS.num st), (MS.cuts st), (MS.cu st), (MS.cd st), (MS.curves st), (MS.yu st), (MS.yd st), (MS.up st), (MS.down st), (MS.xu st), (MS.xd st), (MS.strip st), (MS.place st)), rfl, hw, by rw [ht]; exact hP, hD⟩, hS.F ht⟩) hS.2.2 d_M_at_70
  · skip
    have hw := hw.2 c2
    refine lv_iload_n hx hb d_M_at_15 rfl (lv_at hl 2 rfl) ?_
    refine lv_i2l (v := p1.toInt64) hx hb d_M_at_16 rfl ?_
    refine lv_lconst (v := 1) hx hb d_M_at_17 (by decide) ?_
    refine lv_ldc2 (v := 100) hx hb hown (hts _ m_525) d_M_at_18 ?_
    refine vp_callSi (va_Run.run (va_runS (As := [.long p1.toInt64, .long 1, .long 100]) (rest := [.ref (h 0)]) ⟨hx, hb, hml, hown, hts⟩ (t_M_in l p1.toInt64 (1 : Int64) (100 : Int64) hw) (va_cwS 3 hts (gS m_432 m_433 m_5 (cw_call m_434)) rfl rfl rfl (by decide +kernel) ⟨Nat.le_of_ble_eq_true rfl, Nat.le_of_ble_eq_true rfl⟩) ⟨pSt_bl, fun U hU hW => ⟨rfl, trivial⟩⟩ rfl rfl hl.1 rfl (lv_room (Nat.le_of_ble_eq_true rfl)) d_M_at_21 ⟨Nat.le_of_ble_eq_true rfl, Nat.le_of_ble_eq_true rfl⟩)) (fun r3 hw => ?_)
    refine lv_if_eq (tgt := 58) hx hb d_M_at_24 (by decide) (fun c4 => ?_) (fun c4 => ?_)
    · skip
      have hw := hw.1 c4
      refine lv_iconst (v := 1) hx hb d_M_at_58 (by decide) ?_
      refine va_put (D := (dC, dI)) (ci := 2) (v := .int 1) (ty := .int) (C := RM) (T := TM) (N := 15) hx hb hts i_M tyM tyM_ok nmM hown hK hP hD hS 0 rfl rfl 0 (by decide) (hts _ m_376) (fun _ h9 => h9) rfl (by decide +kernel) rfl rfl (Nat.le_of_ble_eq_true rfl) d_M_at_59 (fun H locs hP hD hS => ?_)
      have hP : va_P (dC, dI) vwCl [(h 0, .inr (2, [.int 1, .int (MS.lines st), .ref (h 1), .int (MS.cuts st), .ref (h 2), .ref (h 3), .int (MS.curves st), .ref (h 4), .ref (h 5), .long (MS.up st), .long (MS.down st), .long (MS.xu st), .long (MS.xd st), .int (MS.strip st), .int (MS.place st)])), (h 1, .inl (k 1, 18, .inl (MS.num st))), (h 2, .inl (k 2, 24, .inr (.inl (MS.cu st)))), (h 3, .inl (k 3, 24, .inr (.inl (MS.cd st)))), (h 4, .inl (k 4, 6, .inr (.inl (MS.yu st)))), (h 5, .inl (k 5, 6, .inr (.inl (MS.yd st))))] H := hP
      have hD : va_D A [(h 0, .inr (2, [.int 1, .int (MS.lines st), .ref (h 1), .int (MS.cuts st), .ref (h 2), .ref (h 3), .int (MS.curves st), .ref (h 4), .ref (h 5), .long (MS.up st), .long (MS.down st), .long (MS.xu st), .long (MS.xd st), .int (MS.strip st), .int (MS.place st)])), (h 1, .inl (k 1, 18, .inl (MS.num st))), (h 2, .inl (k 2, 24, .inr (.inl (MS.cu st)))), (h 3, .inl (k 3, 24, .inr (.inl (MS.cd st)))), (h 4, .inl (k 4, 6, .inr (.inl (MS.yu st)))), (h 5, .inl (k 5, 6, .inr (.inl (MS.yd st))))] := hD
      refine lv_aload_n hx hb d_M_at_62 rfl (lv_at hl 0 rfl) ?_
      refine va_get (D := (dC, dI)) (ci := 2) (v := .int 1) (C := RM) (T := TM) (N := 15) hx hb hts i_M hown hK hP 0 rfl rfl 0 (by decide) (hts _ m_376) (fun _ h9 => h9) rfl d_M_at_63 ?_
      refine lv_if_le (tgt := 71) hx hb d_M_at_66 (by decide) (fun cz => absurd cz (by decide)) (fun _ => ?_)
      refine lv_iconst (v := 0) hx hb d_M_at_69 (by decide) ?_
      have hP : va_P (dC, dI) vwCl (WM h k (1, (MS.lines st), (MS.num st), (MS.cuts st), (MS.cu st), (MS.cd st), (MS.curves st), (MS.yu st), (MS.yd st), (MS.up st), (MS.down st), (MS.xu st), (MS.xd st), (MS.strip st), (MS.place st))) _ := hP
      have hD : va_D A (WM h k (1, (MS.lines st), (MS.num st), (MS.cuts st), (MS.cu st), (MS.cd st), (MS.curves st), (MS.yu st), (MS.yd st), (MS.up st), (MS.down st), (MS.xu st), (MS.xd st), (MS.strip st), (MS.place st))) := hD
      exact W.iret (v := 0) hx hb hr (fun t ht hW => ⟨⟨0, (1, (MS.lines st), (MS.num st), (MS.cuts st), (MS.cu st), (MS.cd st), (MS.curves st), (MS.yu st), (MS.yd st), (MS.up st), (MS.down st), (MS.xu st), (MS.xd st), (MS.strip st), (MS.place st)), rfl, hw, by rw [ht]; exact hP, hD⟩, hS.F ht⟩) hS.2.2 d_M_at_70
    · skip
      have hw := hw.2 c4
      refine lv_iload_n hx hb d_M_at_27 rfl (lv_at hl 3 rfl) ?_
      refine lv_i2l (v := p2.toInt64) hx hb d_M_at_28 rfl ?_
      refine lv_ldc2 (v := (-100)) hx hb hown (hts _ m_524) d_M_at_29 ?_
      refine lv_ldc2 (v := 100) hx hb hown (hts _ m_525) d_M_at_32 ?_
      refine vp_callSi (va_Run.run (va_runS (As := [.long p2.toInt64, .long (-100), .long 100]) (rest := [.ref (h 0)]) ⟨hx, hb, hml, hown, hts⟩ (t_M_in l p2.toInt64 ((-100) : Int64) (100 : Int64) hw) (va_cwS 3 hts (gS m_432 m_433 m_5 (cw_call m_434)) rfl rfl rfl (by decide +kernel) ⟨Nat.le_of_ble_eq_true rfl, Nat.le_of_ble_eq_true rfl⟩) ⟨pSt_bl, fun U hU hW => ⟨rfl, trivial⟩⟩ rfl rfl hl.1 rfl (lv_room (Nat.le_of_ble_eq_true rfl)) d_M_at_35 ⟨Nat.le_of_ble_eq_true rfl, Nat.le_of_ble_eq_true rfl⟩)) (fun r5 hw => ?_)
      refine lv_if_eq (tgt := 58) hx hb d_M_at_38 (by decide) (fun c6 => ?_) (fun c6 => ?_)
      · skip
        have hw := hw.1 c6
        refine lv_iconst (v := 1) hx hb d_M_at_58 (by decide) ?_
        refine va_put (D := (dC, dI)) (ci := 2) (v := .int 1) (ty := .int) (C := RM) (T := TM) (N := 15) hx hb hts i_M tyM tyM_ok nmM hown hK hP hD hS 0 rfl rfl 0 (by decide) (hts _ m_376) (fun _ h9 => h9) rfl (by decide +kernel) rfl rfl (Nat.le_of_ble_eq_true rfl) d_M_at_59 (fun H locs hP hD hS => ?_)
        have hP : va_P (dC, dI) vwCl [(h 0, .inr (2, [.int 1, .int (MS.lines st), .ref (h 1), .int (MS.cuts st), .ref (h 2), .ref (h 3), .int (MS.curves st), .ref (h 4), .ref (h 5), .long (MS.up st), .long (MS.down st), .long (MS.xu st), .long (MS.xd st), .int (MS.strip st), .int (MS.place st)])), (h 1, .inl (k 1, 18, .inl (MS.num st))), (h 2, .inl (k 2, 24, .inr (.inl (MS.cu st)))), (h 3, .inl (k 3, 24, .inr (.inl (MS.cd st)))), (h 4, .inl (k 4, 6, .inr (.inl (MS.yu st)))), (h 5, .inl (k 5, 6, .inr (.inl (MS.yd st))))] H := hP
        have hD : va_D A [(h 0, .inr (2, [.int 1, .int (MS.lines st), .ref (h 1), .int (MS.cuts st), .ref (h 2), .ref (h 3), .int (MS.curves st), .ref (h 4), .ref (h 5), .long (MS.up st), .long (MS.down st), .long (MS.xu st), .long (MS.xd st), .int (MS.strip st), .int (MS.place st)])), (h 1, .inl (k 1, 18, .inl (MS.num st))), (h 2, .inl (k 2, 24, .inr (.inl (MS.cu st)))), (h 3, .inl (k 3, 24, .inr (.inl (MS.cd st)))), (h 4, .inl (k 4, 6, .inr (.inl (MS.yu st)))), (h 5, .inl (k 5, 6, .inr (.inl (MS.yd st))))] := hD
        refine lv_aload_n hx hb d_M_at_62 rfl (lv_at hl 0 rfl) ?_
        refine va_get (D := (dC, dI)) (ci := 2) (v := .int 1) (C := RM) (T := TM) (N := 15) hx hb hts i_M hown hK hP 0 rfl rfl 0 (by decide) (hts _ m_376) (fun _ h9 => h9) rfl d_M_at_63 ?_
        refine lv_if_le (tgt := 71) hx hb d_M_at_66 (by decide) (fun cz => absurd cz (by decide)) (fun _ => ?_)
        refine lv_iconst (v := 0) hx hb d_M_at_69 (by decide) ?_
        have hP : va_P (dC, dI) vwCl (WM h k (1, (MS.lines st), (MS.num st), (MS.cuts st), (MS.cu st), (MS.cd st), (MS.curves st), (MS.yu st), (MS.yd st), (MS.up st), (MS.down st), (MS.xu st), (MS.xd st), (MS.strip st), (MS.place st))) _ := hP
        have hD : va_D A (WM h k (1, (MS.lines st), (MS.num st), (MS.cuts st), (MS.cu st), (MS.cd st), (MS.curves st), (MS.yu st), (MS.yd st), (MS.up st), (MS.down st), (MS.xu st), (MS.xd st), (MS.strip st), (MS.place st))) := hD
        exact W.iret (v := 0) hx hb hr (fun t ht hW => ⟨⟨0, (1, (MS.lines st), (MS.num st), (MS.cuts st), (MS.cu st), (MS.cd st), (MS.curves st), (MS.yu st), (MS.yd st), (MS.up st), (MS.down st), (MS.xu st), (MS.xd st), (MS.strip st), (MS.place st)), rfl, hw, by rw [ht]; exact hP, hD⟩, hS.F ht⟩) hS.2.2 d_M_at_70
      · skip
        have hw := hw.2 c6
        refine lv_iload hx hb d_M_at_41 (lv_at hl 4 rfl) ?_
        refine lv_i2l (v := p3.toInt64) hx hb d_M_at_43 rfl ?_
        refine lv_lconst (v := 1) hx hb d_M_at_44 (by decide) ?_
        refine lv_ldc2 (v := 100) hx hb hown (hts _ m_525) d_M_at_45 ?_
        refine vp_callSi (va_Run.run (va_runS (As := [.long p3.toInt64, .long 1, .long 100]) (rest := [.ref (h 0)]) ⟨hx, hb, hml, hown, hts⟩ (t_M_in l p3.toInt64 (1 : Int64) (100 : Int64) hw) (va_cwS 3 hts (gS m_432 m_433 m_5 (cw_call m_434)) rfl rfl rfl (by decide +kernel) ⟨Nat.le_of_ble_eq_true rfl, Nat.le_of_ble_eq_true rfl⟩) ⟨pSt_bl, fun U hU hW => ⟨rfl, trivial⟩⟩ rfl rfl hl.1 rfl (lv_room (Nat.le_of_ble_eq_true rfl)) d_M_at_48 ⟨Nat.le_of_ble_eq_true rfl, Nat.le_of_ble_eq_true rfl⟩)) (fun r7 hw => ?_)
        refine lv_if_eq (tgt := 58) hx hb d_M_at_51 (by decide) (fun c8 => ?_) (fun c8 => ?_)
        · skip
          have hw := hw.1 c8
          refine lv_iconst (v := 1) hx hb d_M_at_58 (by decide) ?_
          refine va_put (D := (dC, dI)) (ci := 2) (v := .int 1) (ty := .int) (C := RM) (T := TM) (N := 15) hx hb hts i_M tyM tyM_ok nmM hown hK hP hD hS 0 rfl rfl 0 (by decide) (hts _ m_376) (fun _ h9 => h9) rfl (by decide +kernel) rfl rfl (Nat.le_of_ble_eq_true rfl) d_M_at_59 (fun H locs hP hD hS => ?_)
          have hP : va_P (dC, dI) vwCl [(h 0, .inr (2, [.int 1, .int (MS.lines st), .ref (h 1), .int (MS.cuts st), .ref (h 2), .ref (h 3), .int (MS.curves st), .ref (h 4), .ref (h 5), .long (MS.up st), .long (MS.down st), .long (MS.xu st), .long (MS.xd st), .int (MS.strip st), .int (MS.place st)])), (h 1, .inl (k 1, 18, .inl (MS.num st))), (h 2, .inl (k 2, 24, .inr (.inl (MS.cu st)))), (h 3, .inl (k 3, 24, .inr (.inl (MS.cd st)))), (h 4, .inl (k 4, 6, .inr (.inl (MS.yu st)))), (h 5, .inl (k 5, 6, .inr (.inl (MS.yd st))))] H := hP
          have hD : va_D A [(h 0, .inr (2, [.int 1, .int (MS.lines st), .ref (h 1), .int (MS.cuts st), .ref (h 2), .ref (h 3), .int (MS.curves st), .ref (h 4), .ref (h 5), .long (MS.up st), .long (MS.down st), .long (MS.xu st), .long (MS.xd st), .int (MS.strip st), .int (MS.place st)])), (h 1, .inl (k 1, 18, .inl (MS.num st))), (h 2, .inl (k 2, 24, .inr (.inl (MS.cu st)))), (h 3, .inl (k 3, 24, .inr (.inl (MS.cd st)))), (h 4, .inl (k 4, 6, .inr (.inl (MS.yu st)))), (h 5, .inl (k 5, 6, .inr (.inl (MS.yd st))))] := hD
          refine lv_aload_n hx hb d_M_at_62 rfl (lv_at hl 0 rfl) ?_
          refine va_get (D := (dC, dI)) (ci := 2) (v := .int 1) (C := RM) (T := TM) (N := 15) hx hb hts i_M hown hK hP 0 rfl rfl 0 (by decide) (hts _ m_376) (fun _ h9 => h9) rfl d_M_at_63 ?_
          refine lv_if_le (tgt := 71) hx hb d_M_at_66 (by decide) (fun cz => absurd cz (by decide)) (fun _ => ?_)
          refine lv_iconst (v := 0) hx hb d_M_at_69 (by decide) ?_
          have hP : va_P (dC, dI) vwCl (WM h k (1, (MS.lines st), (MS.num st), (MS.cuts st), (MS.cu st), (MS.cd st), (MS.curves st), (MS.yu st), (MS.yd st), (MS.up st), (MS.down st), (MS.xu st), (MS.xd st), (MS.strip st), (MS.place st))) _ := hP
          have hD : va_D A (WM h k (1, (MS.lines st), (MS.num st), (MS.cuts st), (MS.cu st), (MS.cd st), (MS.curves st), (MS.yu st), (MS.yd st), (MS.up st), (MS.down st), (MS.xu st), (MS.xd st), (MS.strip st), (MS.place st))) := hD
          exact W.iret (v := 0) hx hb hr (fun t ht hW => ⟨⟨0, (1, (MS.lines st), (MS.num st), (MS.cuts st), (MS.cu st), (MS.cd st), (MS.curves st), (MS.yu st), (MS.yd st), (MS.up st), (MS.down st), (MS.xu st), (MS.xd st), (MS.strip st), (MS.place st)), rfl, hw, by rw [ht]; exact hP, hD⟩, hS.F ht⟩) hS.2.2 d_M_at_70
        · skip
          have hw := hw.2 c8
          refine lv_iconst (v := 0) hx hb d_M_at_54 (by decide) ?_
          refine lv_goto (tgt := 59) hx hb d_M_at_55 (by decide) ?_
          refine va_put (D := (dC, dI)) (ci := 2) (v := .int 0) (ty := .int) (C := RM) (T := TM) (N := 15) hx hb hts i_M tyM tyM_ok nmM hown hK hP hD hS 0 rfl rfl 0 (by decide) (hts _ m_376) (fun _ h9 => h9) rfl (by decide +kernel) rfl rfl (Nat.le_of_ble_eq_true rfl) d_M_at_59 (fun H locs hP hD hS => ?_)
          have hP : va_P (dC, dI) vwCl [(h 0, .inr (2, [.int 0, .int (MS.lines st), .ref (h 1), .int (MS.cuts st), .ref (h 2), .ref (h 3), .int (MS.curves st), .ref (h 4), .ref (h 5), .long (MS.up st), .long (MS.down st), .long (MS.xu st), .long (MS.xd st), .int (MS.strip st), .int (MS.place st)])), (h 1, .inl (k 1, 18, .inl (MS.num st))), (h 2, .inl (k 2, 24, .inr (.inl (MS.cu st)))), (h 3, .inl (k 3, 24, .inr (.inl (MS.cd st)))), (h 4, .inl (k 4, 6, .inr (.inl (MS.yu st)))), (h 5, .inl (k 5, 6, .inr (.inl (MS.yd st))))] H := hP
          have hD : va_D A [(h 0, .inr (2, [.int 0, .int (MS.lines st), .ref (h 1), .int (MS.cuts st), .ref (h 2), .ref (h 3), .int (MS.curves st), .ref (h 4), .ref (h 5), .long (MS.up st), .long (MS.down st), .long (MS.xu st), .long (MS.xd st), .int (MS.strip st), .int (MS.place st)])), (h 1, .inl (k 1, 18, .inl (MS.num st))), (h 2, .inl (k 2, 24, .inr (.inl (MS.cu st)))), (h 3, .inl (k 3, 24, .inr (.inl (MS.cd st)))), (h 4, .inl (k 4, 6, .inr (.inl (MS.yu st)))), (h 5, .inl (k 5, 6, .inr (.inl (MS.yd st))))] := hD
          refine lv_aload_n hx hb d_M_at_62 rfl (lv_at hl 0 rfl) ?_
          refine va_get (D := (dC, dI)) (ci := 2) (v := .int 0) (C := RM) (T := TM) (N := 15) hx hb hts i_M hown hK hP 0 rfl rfl 0 (by decide) (hts _ m_376) (fun _ h9 => h9) rfl d_M_at_63 ?_
          refine lv_if_le (tgt := 71) hx hb d_M_at_66 (by decide) (fun _ => ?_) (fun cz => absurd (by decide) cz)
          refine lv_iconst (v := 0) hx hb d_M_at_71 (by decide) ?_
          refine lv_istore (lv' := [(5, .int 0), (0, .ref (h 0)), (1, .int p0), (2, .int p1), (3, .int p2), (4, .int p3)]) hx hb d_M_at_72 hl (by decide) rfl (fun ls hl => ?_)
          have hP : va_P (dC, dI) vwCl (WM h k (0, (MS.lines st), (MS.num st), (MS.cuts st), (MS.cu st), (MS.cd st), (MS.curves st), (MS.yu st), (MS.yd st), (MS.up st), (MS.down st), (MS.xu st), (MS.xd st), (MS.strip st), (MS.place st))) _ := hP
          have hD : va_D A (WM h k (0, (MS.lines st), (MS.num st), (MS.cuts st), (MS.cu st), (MS.cd st), (MS.curves st), (MS.yu st), (MS.yd st), (MS.up st), (MS.down st), (MS.xu st), (MS.xd st), (MS.strip st), (MS.place st))) := hD
          obtain ⟨n9, hw⟩ := hw
          exact k_M_at_74 C0 hK hN hA n9 (0, (MS.lines st), (MS.num st), (MS.cuts st), (MS.cu st), (MS.cd st), (MS.curves st), (MS.yu st), (MS.yd st), (MS.up st), (MS.down st), (MS.xu st), (MS.xd st), (MS.strip st), (MS.place st)) p0 p1 p2 p3 0 _ _ hP hD hS ls (lv_sub hl [1, 2, 3, 4, 5, 0] rfl) hw
def w_M_find_29 (post : Int32 → MS → Prop) (K9 : MS → Int32 → Int32 → Int32 → Prop) : Nat → MS → Int32 → Int32 → Int32 → Prop
  | 0, _, _, _, _ => False
  | n + 1, st, v1, v2, v3 => ((2 * (MS.curves st)) < (MS.place st) → (∀ y6 : Int32, y6 = (v2 + ((2 * (MS.curves st)) + 1)) → (K9 st v1 y6 (v3 + 1)))) ∧ (¬ (2 * (MS.curves st)) < (MS.place st) → (w_M_sampleY st (fun u7 => (w_M_isSo u7 (fun r8 => ((r8 = 0 → (w_M_find_29 post K9 n ((MS.code u7), (MS.lines u7), (MS.num u7), (MS.cuts u7), (MS.cu u7), (MS.cd u7), (MS.curves u7), (MS.yu u7), (MS.yd u7), (MS.up u7), (MS.down u7), (MS.xu u7), (MS.xd u7), (MS.strip u7), ((MS.place u7) + 1)) v1 v2 v3)) ∧ (¬ r8 = 0 → (post (v2 + (MS.place u7)) u7)))) v1)) ))
set_option maxHeartbeats 4000000 in
set_option maxRecDepth 100000 in
theorem k_M_find_29 {p : Program} {l : Launch} {e : Env} {s : State} {m : MethodId} {args : Array Value} {below : List Frame} {meth : Method} {c : Code} {dC : Nat → ClassId} {dI : Nat → Nat → Nat} {h : Nat → Nat} {k : Nat → ClassId} {A : Nat → Prop} {post : Int32 → MS → Prop} {K9 : MS → Int32 → Int32 → Int32 → Prop} (C0 : cxt p s m args meth c prog_4_method_28_code 4 RM (some .int)) (hK : va_K (dC, dI) vwCl (YM k) s) (hN : va_Nw nestW s) (hA : ∀ q, s.heap.size ≤ q → A q) (hK9 : ∀ (st : MS) (v1 : Int32) (v2 : Int32) (v3 : Int32) (H : Heap) (locs : List Loc), va_P (dC, dI) vwCl (WM h k st) H → va_D A (WM h k st) → va_S A s.heap H locs → ∀ ls, lv_has ls 4 [(0, .ref (h 0)), (1, .int v1), (2, .int v2), (3, .int v3)] → K9 st v1 v2 v3 → W p l e ({ frames := 4, cells := 0, slots := 0, locals := 95 } : Room) s m args below meth c H locs 0 0 (MQ below (va_Qi post (fun u t => va_P (dC, dI) vwCl (WM h k u) t.heap ∧ va_D A (WM h k u)) A) args s 0 0 A) (F0 m 9 ls [])) : ∀ (n : Nat), ∀ (st : MS) (v1 : Int32) (v2 : Int32) (v3 : Int32) (H : Heap) (locs : List Loc), va_P (dC, dI) vwCl (WM h k st) H → va_D A (WM h k st) → va_S A s.heap H locs → ∀ ls, lv_has ls 4 [(0, .ref (h 0)), (1, .int v1), (2, .int v2), (3, .int v3)] → w_M_find_29 post K9 n st v1 v2 v3 → W p l e ({ frames := 4, cells := 0, slots := 0, locals := 95 } : Room) s m args below meth c H locs 0 0 (MQ below (va_Qi post (fun u t => va_P (dC, dI) vwCl (WM h k u) t.heap ∧ va_D A (WM h k u)) A) args s 0 0 A) (F0 m 29 ls []) := by
  obtain ⟨hx, hb, hr, hml, hown, hts, hlocks⟩ := id C0
  intro n
  induction n with
  | zero =>
    intro st v1 v2 v3 H locs hP hD hS ls hl hw
    exact False.elim hw
  | succ n ih =>
    intro st v1 v2 v3 H locs hP hD hS ls hl hw
    rw [w_M_find_29] at hw
    refine lv_aload_n hx hb d_M_find_29 rfl (lv_at hl 0 rfl) ?_
    refine va_get (D := (dC, dI)) (ci := 2) (v := .int (MS.place st)) (C := RM) (T := TM) (N := 15) hx hb hts i_M hown hK hP 0 rfl rfl 14 (by decide) (hts _ m_390) (fun _ h9 => h9) rfl d_M_find_30 ?_
    refine lv_iconst (v := 2) hx hb d_M_find_33 (by decide) ?_
    refine lv_aload_n hx hb d_M_find_34 rfl (lv_at hl 0 rfl) ?_
    refine va_get (D := (dC, dI)) (ci := 2) (v := .int (MS.curves st)) (C := RM) (T := TM) (N := 15) hx hb hts i_M hown hK hP 0 rfl rfl 6 (by decide) (hts _ m_382) (fun _ h9 => h9) rfl d_M_find_35 ?_
    refine lv_imul hx hb d_M_find_38 ?_
    refine lv_icmp_gt (tgt := 74) hx hb d_M_find_39 (by decide) (fun c5 => ?_) (fun c5 => ?_)
    · skip
      have hw := hw.1 c5
      refine lv_iload_n hx hb d_M_find_74 rfl (lv_at hl 2 rfl) ?_
      refine lv_iconst (v := 2) hx hb d_M_find_75 (by decide) ?_
      refine lv_aload_n hx hb d_M_find_76 rfl (lv_at hl 0 rfl) ?_
      refine va_get (D := (dC, dI)) (ci := 2) (v := .int (MS.curves st)) (C := RM) (T := TM) (N := 15) hx hb hts i_M hown hK hP 0 rfl rfl 6 (by decide) (hts _ m_382) (fun _ h9 => h9) rfl d_M_find_77 ?_
      refine lv_imul hx hb d_M_find_80 ?_
      refine lv_iconst (v := 1) hx hb d_M_find_81 (by decide) ?_
      refine lv_iadd hx hb d_M_find_82 ?_
      refine lv_iadd hx hb d_M_find_83 ?_
      refine lv_topi (fun y6 ey6 => ?_)
      have hw := hw y6 ey6
      refine lv_istore_n (lv' := [(2, .int y6), (0, .ref (h 0)), (1, .int v1), (3, .int v3)]) hx hb d_M_find_84 rfl hl (by decide) rfl (fun ls hl => ?_)
      refine lv_iinc (v := (v3 + 1)) (lv' := [(3, .int (v3 + 1)), (2, .int y6), (0, .ref (h 0)), (1, .int v1)]) hx hb d_M_find_85 hl (k := 3) rfl rfl (by decide) rfl (fun ls hl => ?_)
      refine lv_goto (tgt := 9) hx hb d_M_find_88 (by decide) ?_
      exact hK9 st v1 y6 (v3 + 1) _ _ hP hD hS ls (lv_sub hl [2, 3, 1, 0] rfl) hw
    · skip
      have hw := hw.2 c5
      refine lv_aload_n hx hb d_M_find_42 rfl (lv_at hl 0 rfl) ?_
      have hFc := va_freeA hD hS hA
      refine va_callv (va_runV (As := []) (rest := []) ⟨hx, hb, hml, hown, hts⟩ (t_M_sampleY l dC dI h k _ st  hw) (cwV 0 hts (gV m_504 m_506 s_25 m_5 (cw_call m_507)) rfl rfl rfl (by decide +kernel) ⟨Nat.le_of_ble_eq_true rfl, Nat.le_of_ble_eq_true rfl⟩) ⟨pRw_bl, va_recv hK hP (ci := 2) (q0 := 0) rfl rfl, fun U hU hW => ⟨rfl, pRw_at hP hK hN hD hU hW⟩⟩ rfl rfl hl.1 rfl (lv_room (Nat.le_of_ble_eq_true rfl)) d_M_find_43 ⟨Nat.le_of_ble_eq_true rfl, Nat.le_of_ble_eq_true rfl⟩) hS (fun q _ h => hFc q h) hFc (fun u7 t H1 locs ht hvm hw hB hz1 hk1 hS => ?_)
      obtain ⟨hP1, hD1⟩ := hB
      rw [ht] at hP1
      have hP := hP1
      have hD := hD1.weaken (fun _ q _ h => hFc q.1 h)
      generalize H1 = H at hP hS ⊢
      have hP : va_P (dC, dI) vwCl (WM h k u7) H := hP
      have hD : va_D A (WM h k u7) := hD
      refine lv_aload_n hx hb d_M_find_46 rfl (lv_at hl 0 rfl) ?_
      refine lv_iload_n hx hb d_M_find_47 rfl (lv_at hl 1 rfl) ?_
      refine vp_callSi (va_Run.run (va_runV (As := [.int v1]) (rest := []) ⟨hx, hb, hml, hown, hts⟩ (t_M_isSo l dC dI h k u7 v1 hw) (cwV 1 hts (gV m_530 m_532 s_28 m_5 (cw_call m_533)) rfl rfl rfl (by decide +kernel) ⟨Nat.le_of_ble_eq_true rfl, Nat.le_of_ble_eq_true rfl⟩) ⟨pRo_bl, va_recv hK hP (ci := 2) (q0 := 0) rfl rfl, fun U hU hW => ⟨rfl, pRo_at hP hK hN hU hW⟩⟩ rfl rfl hl.1 rfl (lv_room (Nat.le_of_ble_eq_true rfl)) d_M_find_48 ⟨Nat.le_of_ble_eq_true rfl, Nat.le_of_ble_eq_true rfl⟩)) (fun r8 hw => ?_)
      refine lv_if_eq (tgt := 61) hx hb d_M_find_51 (by decide) (fun c9 => ?_) (fun c9 => ?_)
      · skip
        have hw := hw.1 c9
        refine lv_aload_n hx hb d_M_find_61 rfl (lv_at hl 0 rfl) ?_
        refine lv_dup hx hb d_M_find_62 rfl ?_
        refine va_get (D := (dC, dI)) (ci := 2) (v := .int (MS.place u7)) (C := RM) (T := TM) (N := 15) hx hb hts i_M hown hK hP 0 rfl rfl 14 (by decide) (hts _ m_390) (fun _ h9 => h9) rfl d_M_find_63 ?_
        refine lv_iconst (v := 1) hx hb d_M_find_66 (by decide) ?_
        refine lv_iadd hx hb d_M_find_67 ?_
        refine va_put (D := (dC, dI)) (ci := 2) (v := .int ((MS.place u7) + 1)) (ty := .int) (C := RM) (T := TM) (N := 15) hx hb hts i_M tyM tyM_ok nmM hown hK hP hD hS 0 rfl rfl 14 (by decide) (hts _ m_390) (fun _ h9 => h9) rfl (by decide +kernel) rfl rfl (Nat.le_of_ble_eq_true rfl) d_M_find_68 (fun H locs hP hD hS => ?_)
        have hP : va_P (dC, dI) vwCl [(h 0, .inr (2, [.int (MS.code u7), .int (MS.lines u7), .ref (h 1), .int (MS.cuts u7), .ref (h 2), .ref (h 3), .int (MS.curves u7), .ref (h 4), .ref (h 5), .long (MS.up u7), .long (MS.down u7), .long (MS.xu u7), .long (MS.xd u7), .int (MS.strip u7), .int ((MS.place u7) + 1)])), (h 1, .inl (k 1, 18, .inl (MS.num u7))), (h 2, .inl (k 2, 24, .inr (.inl (MS.cu u7)))), (h 3, .inl (k 3, 24, .inr (.inl (MS.cd u7)))), (h 4, .inl (k 4, 6, .inr (.inl (MS.yu u7)))), (h 5, .inl (k 5, 6, .inr (.inl (MS.yd u7))))] H := hP
        have hD : va_D A [(h 0, .inr (2, [.int (MS.code u7), .int (MS.lines u7), .ref (h 1), .int (MS.cuts u7), .ref (h 2), .ref (h 3), .int (MS.curves u7), .ref (h 4), .ref (h 5), .long (MS.up u7), .long (MS.down u7), .long (MS.xu u7), .long (MS.xd u7), .int (MS.strip u7), .int ((MS.place u7) + 1)])), (h 1, .inl (k 1, 18, .inl (MS.num u7))), (h 2, .inl (k 2, 24, .inr (.inl (MS.cu u7)))), (h 3, .inl (k 3, 24, .inr (.inl (MS.cd u7)))), (h 4, .inl (k 4, 6, .inr (.inl (MS.yu u7)))), (h 5, .inl (k 5, 6, .inr (.inl (MS.yd u7))))] := hD
        refine lv_goto (tgt := 29) hx hb d_M_find_71 (by decide) ?_
        have hP : va_P (dC, dI) vwCl (WM h k ((MS.code u7), (MS.lines u7), (MS.num u7), (MS.cuts u7), (MS.cu u7), (MS.cd u7), (MS.curves u7), (MS.yu u7), (MS.yd u7), (MS.up u7), (MS.down u7), (MS.xu u7), (MS.xd u7), (MS.strip u7), ((MS.place u7) + 1))) _ := hP
        have hD : va_D A (WM h k ((MS.code u7), (MS.lines u7), (MS.num u7), (MS.cuts u7), (MS.cu u7), (MS.cd u7), (MS.curves u7), (MS.yu u7), (MS.yd u7), (MS.up u7), (MS.down u7), (MS.xu u7), (MS.xd u7), (MS.strip u7), ((MS.place u7) + 1))) := hD
        exact ih ((MS.code u7), (MS.lines u7), (MS.num u7), (MS.cuts u7), (MS.cu u7), (MS.cd u7), (MS.curves u7), (MS.yu u7), (MS.yd u7), (MS.up u7), (MS.down u7), (MS.xu u7), (MS.xd u7), (MS.strip u7), ((MS.place u7) + 1)) v1 v2 v3 _ _ hP hD hS ls (lv_sub hl [0, 1, 2, 3] rfl) hw
      · skip
        have hw := hw.2 c9
        refine lv_iload_n hx hb d_M_find_54 rfl (lv_at hl 2 rfl) ?_
        refine lv_aload_n hx hb d_M_find_55 rfl (lv_at hl 0 rfl) ?_
        refine va_get (D := (dC, dI)) (ci := 2) (v := .int (MS.place u7)) (C := RM) (T := TM) (N := 15) hx hb hts i_M hown hK hP 0 rfl rfl 14 (by decide) (hts _ m_390) (fun _ h9 => h9) rfl d_M_find_56 ?_
        refine lv_iadd hx hb d_M_find_59 ?_
        exact W.iret (v := (v2 + (MS.place u7))) hx hb hr (fun t ht hW => ⟨⟨(v2 + (MS.place u7)), u7, rfl, hw, by rw [ht]; exact hP, hD⟩, hS.F ht⟩) hS.2.2 d_M_find_60
def w_M_find_9 (post : Int32 → MS → Prop) : Nat → MS → Int32 → Int32 → Int32 → Prop
  | 0, _, _, _, _ => False
  | n + 1, st, v1, v2, v3 => ((2 * (MS.cuts st)) < v3 → (post (-1) st)) ∧ (¬ (2 * (MS.cuts st)) < v3 → (w_M_curvesOf st (fun u3 => (∃ z, w_M_find_29 post (fun a0 a1 a2 a3 => w_M_find_9 post n a0 a1 a2 a3) z ((MS.code u3), (MS.lines u3), (MS.num u3), (MS.cuts u3), (MS.cu u3), (MS.cd u3), (MS.curves u3), (MS.yu u3), (MS.yd u3), (MS.up u3), (MS.down u3), (MS.xu u3), (MS.xd u3), (MS.strip u3), 0) v1 v2 v3)) v3))
set_option maxHeartbeats 4000000 in
set_option maxRecDepth 100000 in
theorem k_M_find_9 {p : Program} {l : Launch} {e : Env} {s : State} {m : MethodId} {args : Array Value} {below : List Frame} {meth : Method} {c : Code} {dC : Nat → ClassId} {dI : Nat → Nat → Nat} {h : Nat → Nat} {k : Nat → ClassId} {A : Nat → Prop} {post : Int32 → MS → Prop} (C0 : cxt p s m args meth c prog_4_method_28_code 4 RM (some .int)) (hK : va_K (dC, dI) vwCl (YM k) s) (hN : va_Nw nestW s) (hA : ∀ q, s.heap.size ≤ q → A q) : ∀ (n : Nat), ∀ (st : MS) (v1 : Int32) (v2 : Int32) (v3 : Int32) (H : Heap) (locs : List Loc), va_P (dC, dI) vwCl (WM h k st) H → va_D A (WM h k st) → va_S A s.heap H locs → ∀ ls, lv_has ls 4 [(0, .ref (h 0)), (1, .int v1), (2, .int v2), (3, .int v3)] → w_M_find_9 post n st v1 v2 v3 → W p l e ({ frames := 4, cells := 0, slots := 0, locals := 95 } : Room) s m args below meth c H locs 0 0 (MQ below (va_Qi post (fun u t => va_P (dC, dI) vwCl (WM h k u) t.heap ∧ va_D A (WM h k u)) A) args s 0 0 A) (F0 m 9 ls []) := by
  obtain ⟨hx, hb, hr, hml, hown, hts, hlocks⟩ := id C0
  intro n
  induction n with
  | zero =>
    intro st v1 v2 v3 H locs hP hD hS ls hl hw
    exact False.elim hw
  | succ n ih =>
    intro st v1 v2 v3 H locs hP hD hS ls hl hw
    rw [w_M_find_9] at hw
    refine lv_iload_n hx hb d_M_find_9 rfl (lv_at hl 3 rfl) ?_
    refine lv_iconst (v := 2) hx hb d_M_find_10 (by decide) ?_
    refine lv_aload_n hx hb d_M_find_11 rfl (lv_at hl 0 rfl) ?_
    refine va_get (D := (dC, dI)) (ci := 2) (v := .int (MS.cuts st)) (C := RM) (T := TM) (N := 15) hx hb hts i_M hown hK hP 0 rfl rfl 3 (by decide) (hts _ m_379) (fun _ h9 => h9) rfl d_M_find_12 ?_
    refine lv_imul hx hb d_M_find_15 ?_
    refine lv_icmp_gt (tgt := 91) hx hb d_M_find_16 (by decide) (fun c2 => ?_) (fun c2 => ?_)
    · skip
      have hw := hw.1 c2
      refine lv_iconst (v := (-1)) hx hb d_M_find_91 (by decide) ?_
      exact W.iret (v := (-1)) hx hb hr (fun t ht hW => ⟨⟨(-1), st, rfl, hw, by rw [ht]; exact hP, hD⟩, hS.F ht⟩) hS.2.2 d_M_find_92
    · skip
      have hw := hw.2 c2
      refine lv_aload_n hx hb d_M_find_19 rfl (lv_at hl 0 rfl) ?_
      refine lv_iload_n hx hb d_M_find_20 rfl (lv_at hl 3 rfl) ?_
      have hFc := va_freeA hD hS hA
      refine va_callv (va_runV (As := [.int v3]) (rest := []) ⟨hx, hb, hml, hown, hts⟩ (t_M_curvesOf l dC dI h k _ st v3 hw) (cwV 1 hts (gV m_467 m_469 s_19 m_5 (cw_call m_470)) rfl rfl rfl (by decide +kernel) ⟨Nat.le_of_ble_eq_true rfl, Nat.le_of_ble_eq_true rfl⟩) ⟨pRw_bl, va_recv hK hP (ci := 2) (q0 := 0) rfl rfl, fun U hU hW => ⟨rfl, pRw_at hP hK hN hD hU hW⟩⟩ rfl rfl hl.1 rfl (lv_room (Nat.le_of_ble_eq_true rfl)) d_M_find_21 ⟨Nat.le_of_ble_eq_true rfl, Nat.le_of_ble_eq_true rfl⟩) hS (fun q _ h => hFc q h) hFc (fun u3 t H1 locs ht hvm hw hB hz1 hk1 hS => ?_)
      obtain ⟨hP1, hD1⟩ := hB
      rw [ht] at hP1
      have hP := hP1
      have hD := hD1.weaken (fun _ q _ h => hFc q.1 h)
      generalize H1 = H at hP hS ⊢
      have hP : va_P (dC, dI) vwCl (WM h k u3) H := hP
      have hD : va_D A (WM h k u3) := hD
      refine lv_aload_n hx hb d_M_find_24 rfl (lv_at hl 0 rfl) ?_
      refine lv_iconst (v := 0) hx hb d_M_find_25 (by decide) ?_
      refine va_put (D := (dC, dI)) (ci := 2) (v := .int 0) (ty := .int) (C := RM) (T := TM) (N := 15) hx hb hts i_M tyM tyM_ok nmM hown hK hP hD hS 0 rfl rfl 14 (by decide) (hts _ m_390) (fun _ h9 => h9) rfl (by decide +kernel) rfl rfl (Nat.le_of_ble_eq_true rfl) d_M_find_26 (fun H locs hP hD hS => ?_)
      have hP : va_P (dC, dI) vwCl [(h 0, .inr (2, [.int (MS.code u3), .int (MS.lines u3), .ref (h 1), .int (MS.cuts u3), .ref (h 2), .ref (h 3), .int (MS.curves u3), .ref (h 4), .ref (h 5), .long (MS.up u3), .long (MS.down u3), .long (MS.xu u3), .long (MS.xd u3), .int (MS.strip u3), .int 0])), (h 1, .inl (k 1, 18, .inl (MS.num u3))), (h 2, .inl (k 2, 24, .inr (.inl (MS.cu u3)))), (h 3, .inl (k 3, 24, .inr (.inl (MS.cd u3)))), (h 4, .inl (k 4, 6, .inr (.inl (MS.yu u3)))), (h 5, .inl (k 5, 6, .inr (.inl (MS.yd u3))))] H := hP
      have hD : va_D A [(h 0, .inr (2, [.int (MS.code u3), .int (MS.lines u3), .ref (h 1), .int (MS.cuts u3), .ref (h 2), .ref (h 3), .int (MS.curves u3), .ref (h 4), .ref (h 5), .long (MS.up u3), .long (MS.down u3), .long (MS.xu u3), .long (MS.xd u3), .int (MS.strip u3), .int 0])), (h 1, .inl (k 1, 18, .inl (MS.num u3))), (h 2, .inl (k 2, 24, .inr (.inl (MS.cu u3)))), (h 3, .inl (k 3, 24, .inr (.inl (MS.cd u3)))), (h 4, .inl (k 4, 6, .inr (.inl (MS.yu u3)))), (h 5, .inl (k 5, 6, .inr (.inl (MS.yd u3))))] := hD
      have hP : va_P (dC, dI) vwCl (WM h k ((MS.code u3), (MS.lines u3), (MS.num u3), (MS.cuts u3), (MS.cu u3), (MS.cd u3), (MS.curves u3), (MS.yu u3), (MS.yd u3), (MS.up u3), (MS.down u3), (MS.xu u3), (MS.xd u3), (MS.strip u3), 0)) _ := hP
      have hD : va_D A (WM h k ((MS.code u3), (MS.lines u3), (MS.num u3), (MS.cuts u3), (MS.cu u3), (MS.cd u3), (MS.curves u3), (MS.yu u3), (MS.yd u3), (MS.up u3), (MS.down u3), (MS.xu u3), (MS.xd u3), (MS.strip u3), 0)) := hD
      obtain ⟨n4, hw⟩ := hw
      exact k_M_find_29 C0 hK hN hA ih n4 ((MS.code u3), (MS.lines u3), (MS.num u3), (MS.cuts u3), (MS.cu u3), (MS.cd u3), (MS.curves u3), (MS.yu u3), (MS.yd u3), (MS.up u3), (MS.down u3), (MS.xu u3), (MS.xd u3), (MS.strip u3), 0) v1 v2 v3 _ _ hP hD hS ls (lv_sub hl [0, 1, 2, 3] rfl) hw
def w_M_find (st : MS) (post : Int32 → MS → Prop) (p0 : Int32) : Prop := ∃ z, w_M_find_9 post z (0, (MS.lines st), (MS.num st), (MS.cuts st), (MS.cu st), (MS.cd st), (MS.curves st), (MS.yu st), (MS.yd st), (MS.up st), (MS.down st), (MS.xu st), (MS.xd st), (MS.strip st), (MS.place st)) p0 0 0
set_option maxHeartbeats 4000000 in
set_option maxRecDepth 100000 in
theorem t_M_find (l : Launch) (dC : Nat → ClassId) (dI : Nat → Nat → Nat) (h : Nat → Nat) (k : Nat → ClassId) (sz : Nat) (st : MS) (p0 : Int32) {post : Int32 → MS → Prop} (hw : w_M_find st post p0) : Met l y_M_find (Cond.code y_M_find prog_4_method_28_code 4 (some .int) :: cw) ({ frames := 4, cells := 0, slots := 0, locals := 95 } : Room) (va_Pc [.ref (h 0), .int p0] (pRw (dC, dI) (WM h k st) (YM k) sz)) (va_Qi post (fun u t => va_P (dC, dI) vwCl (WM h k u) t.heap ∧ va_D (va_A (WM h k st) sz) (WM h k u)) (va_A (WM h k st) sz)) 0 0 (va_A (WM h k st) sz) := by
  refine Met.ofW (cc := prog_4_method_28_code) (maxL := 4) (ret := (some .int)) (by decide) rfl ?_
  intro p e s m args below meth c s₁ B hml hv
  obtain ⟨rfl, hsz, hP, hK, hN, hD0⟩ := hv
  have hx := B.exec
  have hb := B.bytes
  have hr := B.returns
  have hts : ∀ w ∈ cw, w.before _ s = true := fun w h => atoms_spec (ws := (Cond.code y_M_find prog_4_method_28_code 4 (some .int) :: cw)) B.pre w (List.mem_cons_of_mem _ h)
  have hown : s.vm.findClass RM = some m.cls := findClass_of_methodNamed B.named
  have hlocks := B.notSynchronized
  have C0 : cxt p s m _ meth c prog_4_method_28_code 4 RM (some .int) := ⟨hx, hb, hr, hml, hown, hts, hlocks⟩
  subst hsz
  have hD := hD0.self (sz := s.heap.size)
  generalize hAe : va_A (WM h k st) s.heap.size = A at hD ⊢
  have hA : ∀ q : Nat, s.heap.size ≤ q → A q := fun q h => by rw [← hAe]; exact Or.inr h
  have hS : va_S A s.heap s.heap [] := va_S.rf
  have hl := lv_entry ([.ref (h 0), .int p0]) (n := 4) (Nat.le_of_ble_eq_true rfl)
  rw [lg_entry_eq]
  generalize (lg_sl ([.ref (h 0), .int p0]) ++ List.replicate (4 - (lg_sl ([.ref (h 0), .int p0])).length) Slot.unset).toArray = ls at hl ⊢
  have hl : lv_has ls 4 [(0, .ref (h 0)), (1, .int p0)] := hl
  unfold w_M_find at hw
  refine lv_aload_n hx hb d_M_find_0 rfl (lv_at hl 0 rfl) ?_
  refine lv_iconst (v := 0) hx hb d_M_find_1 (by decide) ?_
  refine va_put (D := (dC, dI)) (ci := 2) (v := .int 0) (ty := .int) (C := RM) (T := TM) (N := 15) hx hb hts i_M tyM tyM_ok nmM hown hK hP hD hS 0 rfl rfl 0 (by decide) (hts _ m_376) (fun _ h9 => h9) rfl (by decide +kernel) rfl rfl (Nat.le_of_ble_eq_true rfl) d_M_find_2 (fun H locs hP hD hS => ?_)
  have hP : va_P (dC, dI) vwCl [(h 0, .inr (2, [.int 0, .int (MS.lines st), .ref (h 1), .int (MS.cuts st), .ref (h 2), .ref (h 3), .int (MS.curves st), .ref (h 4), .ref (h 5), .long (MS.up st), .long (MS.down st), .long (MS.xu st), .long (MS.xd st), .int (MS.strip st), .int (MS.place st)])), (h 1, .inl (k 1, 18, .inl (MS.num st))), (h 2, .inl (k 2, 24, .inr (.inl (MS.cu st)))), (h 3, .inl (k 3, 24, .inr (.inl (MS.cd st)))), (h 4, .inl (k 4, 6, .inr (.inl (MS.yu st)))), (h 5, .inl (k 5, 6, .inr (.inl (MS.yd st))))] H := hP
  have hD : va_D A [(h 0, .inr (2, [.int 0, .int (MS.lines st), .ref (h 1), .int (MS.cuts st), .ref (h 2), .ref (h 3), .int (MS.curves st), .ref (h 4), .ref (h 5), .long (MS.up st), .long (MS.down st), .long (MS.xu st), .long (MS.xd st), .int (MS.strip st), .int (MS.place st)])), (h 1, .inl (k 1, 18, .inl (MS.num st))), (h 2, .inl (k 2, 24, .inr (.inl (MS.cu st)))), (h 3, .inl (k 3, 24, .inr (.inl (MS.cd st)))), (h 4, .inl (k 4, 6, .inr (.inl (MS.yu st)))), (h 5, .inl (k 5, 6, .inr (.inl (MS.yd st))))] := hD
  refine lv_iconst (v := 0) hx hb d_M_find_5 (by decide) ?_
  refine lv_istore_n (lv' := [(2, .int 0), (0, .ref (h 0)), (1, .int p0)]) hx hb d_M_find_6 rfl hl (by decide) rfl (fun ls hl => ?_)
  refine lv_iconst (v := 0) hx hb d_M_find_7 (by decide) ?_
  refine lv_istore_n (lv' := [(3, .int 0), (2, .int 0), (0, .ref (h 0)), (1, .int p0)]) hx hb d_M_find_8 rfl hl (by decide) rfl (fun ls hl => ?_)
  have hP : va_P (dC, dI) vwCl (WM h k (0, (MS.lines st), (MS.num st), (MS.cuts st), (MS.cu st), (MS.cd st), (MS.curves st), (MS.yu st), (MS.yd st), (MS.up st), (MS.down st), (MS.xu st), (MS.xd st), (MS.strip st), (MS.place st))) _ := hP
  have hD : va_D A (WM h k (0, (MS.lines st), (MS.num st), (MS.cuts st), (MS.cu st), (MS.cd st), (MS.curves st), (MS.yu st), (MS.yd st), (MS.up st), (MS.down st), (MS.xu st), (MS.xd st), (MS.strip st), (MS.place st))) := hD
  obtain ⟨n1, hw⟩ := hw
  exact k_M_find_9 C0 hK hN hA n1 (0, (MS.lines st), (MS.num st), (MS.cuts st), (MS.cu st), (MS.cd st), (MS.curves st), (MS.yu st), (MS.yd st), (MS.up st), (MS.down st), (MS.xu st), (MS.xd st), (MS.strip st), (MS.place st)) p0 0 0 _ _ hP hD hS ls (lv_sub hl [2, 3, 1, 0] rfl) hw
