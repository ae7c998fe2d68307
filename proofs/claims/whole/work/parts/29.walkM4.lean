def w_M_line (st : MS) (post : Int32 → MS → Prop) (p0 : Int32) (p1 : Int32) (p2 : Int32) : Prop := w_M_in (fun r1 => ((r1 = 0 → (post 0 (1, (MS.lines st), (MS.num st), (MS.cuts st), (MS.cu st), (MS.cd st), (MS.curves st), (MS.yu st), (MS.yd st), (MS.up st), (MS.down st), (MS.xu st), (MS.xd st), (MS.strip st), (MS.place st)))) ∧ (¬ r1 = 0 → (w_M_in (fun r3 => ((r3 = 0 → (post 0 (1, (MS.lines st), (MS.num st), (MS.cuts st), (MS.cu st), (MS.cd st), (MS.curves st), (MS.yu st), (MS.yd st), (MS.up st), (MS.down st), (MS.xu st), (MS.xd st), (MS.strip st), (MS.place st)))) ∧ (¬ r3 = 0 → (w_M_in (fun r5 => ((r5 = 0 → (post 0 (1, (MS.lines st), (MS.num st), (MS.cuts st), (MS.cu st), (MS.cd st), (MS.curves st), (MS.yu st), (MS.yd st), (MS.up st), (MS.down st), (MS.xu st), (MS.xd st), (MS.strip st), (MS.place st)))) ∧ (¬ r5 = 0 → ((¬ p0 = 0 → ((¬ (MS.lines st) = 6 → (vp_in (3 * (MS.lines st)) 18 ∧ (vp_in ((3 * (MS.lines st)) + 1) 18 ∧ (vp_in ((3 * (MS.lines st)) + 2) 18 ∧ (w_M_look (0, ((MS.lines st) + 1), (upd (upd (upd (MS.num st) (3 * (MS.lines st)).toNatClampNeg p0) ((3 * (MS.lines st)) + 1).toNatClampNeg p1) ((3 * (MS.lines st)) + 2).toNatClampNeg p2), (MS.cuts st), (MS.cu st), (MS.cd st), (MS.curves st), (MS.yu st), (MS.yd st), (MS.up st), (MS.down st), (MS.xu st), (MS.xd st), (MS.strip st), (MS.place st)) (fun u12 => (post ((MS.lines u12) - 1) u12)) ))))) ∧ ((MS.lines st) = 6 → (post 0 (2, (MS.lines st), (MS.num st), (MS.cuts st), (MS.cu st), (MS.cd st), (MS.curves st), (MS.yu st), (MS.yd st), (MS.up st), (MS.down st), (MS.xu st), (MS.xd st), (MS.strip st), (MS.place st)))))) ∧ (p0 = 0 → ((p1 = 0 → (post 0 (1, (MS.lines st), (MS.num st), (MS.cuts st), (MS.cu st), (MS.cd st), (MS.curves st), (MS.yu st), (MS.yd st), (MS.up st), (MS.down st), (MS.xu st), (MS.xd st), (MS.strip st), (MS.place st)))) ∧ (¬ p1 = 0 → ((¬ (MS.lines st) = 6 → (vp_in (3 * (MS.lines st)) 18 ∧ (vp_in ((3 * (MS.lines st)) + 1) 18 ∧ (vp_in ((3 * (MS.lines st)) + 2) 18 ∧ (w_M_look (0, ((MS.lines st) + 1), (upd (upd (upd (MS.num st) (3 * (MS.lines st)).toNatClampNeg p0) ((3 * (MS.lines st)) + 1).toNatClampNeg p1) ((3 * (MS.lines st)) + 2).toNatClampNeg p2), (MS.cuts st), (MS.cu st), (MS.cd st), (MS.curves st), (MS.yu st), (MS.yd st), (MS.up st), (MS.down st), (MS.xu st), (MS.xd st), (MS.strip st), (MS.place st)) (fun u18 => (post ((MS.lines u18) - 1) u18)) ))))) ∧ ((MS.lines st) = 6 → (post 0 (2, (MS.lines st), (MS.num st), (MS.cuts st), (MS.cu st), (MS.cd st), (MS.curves st), (MS.yu st), (MS.yd st), (MS.up st), (MS.down st), (MS.xu st), (MS.xd st), (MS.strip st), (MS.place st)))))))))))) p2.toInt64 ((-6) : Int64) (6 : Int64))))) p1.toInt64 ((-6) : Int64) (6 : Int64))))) p0.toInt64 ((-6) : Int64) (6 : Int64)
set_option maxHeartbeats 4000000 in
set_option maxRecDepth 100000 in
theorem t_M_line (l : Launch) (dC : Nat → ClassId) (dI : Nat → Nat → Nat) (h : Nat → Nat) (k : Nat → ClassId) (sz : Nat) (st : MS) (p0 : Int32) (p1 : Int32) (p2 : Int32) {post : Int32 → MS → Prop} (hw : w_M_line st post p0 p1 p2) : Met l y_M_line (Cond.code y_M_line prog_4_method_6_code 5 (some .int) :: cw) ({ frames := 2, cells := 0, slots := 0, locals := 53 } : Room) (va_Pc [.ref (h 0), .int p0, .int p1, .int p2] (pRw (dC, dI) (WM h k st) (YM k) sz)) (va_Qi post (fun u t => va_P (dC, dI) vwCl (WM h k u) t.heap ∧ va_D (va_A (WM h k st) sz) (WM h k u)) (va_A (WM h k st) sz)) 0 0 (va_A (WM h k st) sz) := by
  refine Met.ofW (cc := prog_4_method_6_code) (maxL := 5) (ret := (some .int)) (by decide) rfl ?_
  intro p e s m args below meth c s₁ B hml hv
  obtain ⟨rfl, hsz, hP, hK, hN, hD0⟩ := hv
  have hx := B.exec
  have hb := B.bytes
  have hr := B.returns
  have hts : ∀ w ∈ cw, w.before _ s = true := fun w h => atoms_spec (ws := (Cond.code y_M_line prog_4_method_6_code 5 (some .int) :: cw)) B.pre w (List.mem_cons_of_mem _ h)
  have hown : s.vm.findClass RM = some m.cls := findClass_of_methodNamed B.named
  have hlocks := B.notSynchronized
  have C0 : cxt p s m _ meth c prog_4_method_6_code 5 RM (some .int) := ⟨hx, hb, hr, hml, hown, hts, hlocks⟩
  subst hsz
  have hD := hD0.self (sz := s.heap.size)
  generalize hAe : va_A (WM h k st) s.heap.size = A at hD ⊢
  have hA : ∀ q : Nat, s.heap.size ≤ q → A q := fun q h => by rw [← hAe]; exact Or.inr h
  have hS : va_S A s.heap s.heap [] := va_S.rf
  have hl := lv_entry ([.ref (h 0), .int p0, .int p1, .int p2]) (n := 5) (Nat.le_of_ble_eq_true rfl)
  rw [lg_entry_eq]
  generalize (lg_sl ([.ref (h 0), .int p0, .int p1, .int p2]) ++ List.replicate (5 - (lg_sl ([.ref (h 0), .int p0, .int p1, .int p2])).length) Slot.unset).toArray = ls at hl ⊢
  have hl : lv_has ls 5 [(0, .ref (h 0)), (1, .int p0), (2, .int p1), (3, .int p2)] := hl
  unfold w_M_line at hw
  refine lv_iload_n hx hb d_M_line_0 rfl (lv_at hl 1 rfl) ?_
  refine lv_i2l (v := p0.toInt64) hx hb d_M_line_1 rfl ?_
  refine lv_ldc2 (v := (-6)) hx hb hown (hts _ m_430) d_M_line_2 ?_
  refine lv_ldc2 (v := 6) hx hb hown (hts _ m_431) d_M_line_5 ?_
  refine vp_callSi (va_Run.run (va_runS (As := [.long p0.toInt64, .long (-6), .long 6]) (rest := []) ⟨hx, hb, hml, hown, hts⟩ (t_M_in l p0.toInt64 ((-6) : Int64) (6 : Int64) hw) (va_cwS 3 hts (gS m_432 m_433 m_5 (cw_call m_434)) rfl rfl rfl (by decide +kernel) ⟨Nat.le_of_ble_eq_true rfl, Nat.le_of_ble_eq_true rfl⟩) ⟨pSt_bl, fun U hU hW => ⟨rfl, trivial⟩⟩ rfl rfl hl.1 rfl (lv_room (Nat.le_of_ble_eq_true rfl)) d_M_line_8 ⟨Nat.le_of_ble_eq_true rfl, Nat.le_of_ble_eq_true rfl⟩)) (fun r1 hw => ?_)
  refine lv_if_eq (tgt := 54) hx hb d_M_line_11 (by decide) (fun c2 => ?_) (fun c2 => ?_)
  · skip
    have hw := hw.1 c2
    refine lv_iconst (v := 0) hx hb d_M_line_54 (by decide) ?_
    refine lv_istore (lv' := [(4, .int 0), (0, .ref (h 0)), (1, .int p0), (2, .int p1), (3, .int p2)]) hx hb d_M_line_55 hl (by decide) rfl (fun ls hl => ?_)
    refine lv_aload_n hx hb d_M_line_57 rfl (lv_at hl 1 rfl) ?_
    refine lv_iload hx hb d_M_line_58 (lv_at hl 0 rfl) ?_
    refine lv_if_ne (tgt := 67) hx hb d_M_line_60 (by decide) (fun cz => absurd (by decide) cz) (fun _ => ?_)
    refine lv_iconst (v := 1) hx hb d_M_line_63 (by decide) ?_
    refine lv_goto (tgt := 81) hx hb d_M_line_64 (by decide) ?_
    refine va_put (D := (dC, dI)) (ci := 2) (v := .int 1) (ty := .int) (C := RM) (T := TM) (N := 15) hx hb hts i_M tyM tyM_ok nmM hown hK hP hD hS 0 rfl rfl 0 (by decide) (hts _ m_376) (fun _ h9 => h9) rfl (by decide +kernel) rfl rfl (Nat.le_of_ble_eq_true rfl) d_M_line_81 (fun H locs hP hD hS => ?_)
    have hP : va_P (dC, dI) vwCl [(h 0, .inr (2, [.int 1, .int (MS.lines st), .ref (h 1), .int (MS.cuts st), .ref (h 2), .ref (h 3), .int (MS.curves st), .ref (h 4), .ref (h 5), .long (MS.up st), .long (MS.down st), .long (MS.xu st), .long (MS.xd st), .int (MS.strip st), .int (MS.place st)])), (h 1, .inl (k 1, 18, .inl (MS.num st))), (h 2, .inl (k 2, 24, .inr (.inl (MS.cu st)))), (h 3, .inl (k 3, 24, .inr (.inl (MS.cd st)))), (h 4, .inl (k 4, 6, .inr (.inl (MS.yu st)))), (h 5, .inl (k 5, 6, .inr (.inl (MS.yd st))))] H := hP
    have hD : va_D A [(h 0, .inr (2, [.int 1, .int (MS.lines st), .ref (h 1), .int (MS.cuts st), .ref (h 2), .ref (h 3), .int (MS.curves st), .ref (h 4), .ref (h 5), .long (MS.up st), .long (MS.down st), .long (MS.xu st), .long (MS.xd st), .int (MS.strip st), .int (MS.place st)])), (h 1, .inl (k 1, 18, .inl (MS.num st))), (h 2, .inl (k 2, 24, .inr (.inl (MS.cu st)))), (h 3, .inl (k 3, 24, .inr (.inl (MS.cd st)))), (h 4, .inl (k 4, 6, .inr (.inl (MS.yu st)))), (h 5, .inl (k 5, 6, .inr (.inl (MS.yd st))))] := hD
    refine lv_aload_n hx hb d_M_line_84 rfl (lv_at hl 1 rfl) ?_
    refine va_get (D := (dC, dI)) (ci := 2) (v := .int 1) (C := RM) (T := TM) (N := 15) hx hb hts i_M hown hK hP 0 rfl rfl 0 (by decide) (hts _ m_376) (fun _ h9 => h9) rfl d_M_line_85 ?_
    refine lv_if_le (tgt := 93) hx hb d_M_line_88 (by decide) (fun cz => absurd cz (by decide)) (fun _ => ?_)
    refine lv_iconst (v := 0) hx hb d_M_line_91 (by decide) ?_
    have hP : va_P (dC, dI) vwCl (WM h k (1, (MS.lines st), (MS.num st), (MS.cuts st), (MS.cu st), (MS.cd st), (MS.curves st), (MS.yu st), (MS.yd st), (MS.up st), (MS.down st), (MS.xu st), (MS.xd st), (MS.strip st), (MS.place st))) _ := hP
    have hD : va_D A (WM h k (1, (MS.lines st), (MS.num st), (MS.cuts st), (MS.cu st), (MS.cd st), (MS.curves st), (MS.yu st), (MS.yd st), (MS.up st), (MS.down st), (MS.xu st), (MS.xd st), (MS.strip st), (MS.place st))) := hD
    exact W.iret (v := 0) hx hb hr (fun t ht hW => ⟨⟨0, (1, (MS.lines st), (MS.num st), (MS.cuts st), (MS.cu st), (MS.cd st), (MS.curves st), (MS.yu st), (MS.yd st), (MS.up st), (MS.down st), (MS.xu st), (MS.xd st), (MS.strip st), (MS.place st)), rfl, hw, by rw [ht]; exact hP, hD⟩, hS.F ht⟩) hS.2.2 d_M_line_92
  · skip
    have hw := hw.2 c2
    refine lv_iload_n hx hb d_M_line_14 rfl (lv_at hl 2 rfl) ?_
    refine lv_i2l (v := p1.toInt64) hx hb d_M_line_15 rfl ?_
    refine lv_ldc2 (v := (-6)) hx hb hown (hts _ m_430) d_M_line_16 ?_
    refine lv_ldc2 (v := 6) hx hb hown (hts _ m_431) d_M_line_19 ?_
    refine vp_callSi (va_Run.run (va_runS (As := [.long p1.toInt64, .long (-6), .long 6]) (rest := []) ⟨hx, hb, hml, hown, hts⟩ (t_M_in l p1.toInt64 ((-6) : Int64) (6 : Int64) hw) (va_cwS 3 hts (gS m_432 m_433 m_5 (cw_call m_434)) rfl rfl rfl (by decide +kernel) ⟨Nat.le_of_ble_eq_true rfl, Nat.le_of_ble_eq_true rfl⟩) ⟨pSt_bl, fun U hU hW => ⟨rfl, trivial⟩⟩ rfl rfl hl.1 rfl (lv_room (Nat.le_of_ble_eq_true rfl)) d_M_line_22 ⟨Nat.le_of_ble_eq_true rfl, Nat.le_of_ble_eq_true rfl⟩)) (fun r3 hw => ?_)
    refine lv_if_eq (tgt := 54) hx hb d_M_line_25 (by decide) (fun c4 => ?_) (fun c4 => ?_)
    · skip
      have hw := hw.1 c4
      refine lv_iconst (v := 0) hx hb d_M_line_54 (by decide) ?_
      refine lv_istore (lv' := [(4, .int 0), (0, .ref (h 0)), (1, .int p0), (2, .int p1), (3, .int p2)]) hx hb d_M_line_55 hl (by decide) rfl (fun ls hl => ?_)
      refine lv_aload_n hx hb d_M_line_57 rfl (lv_at hl 1 rfl) ?_
      refine lv_iload hx hb d_M_line_58 (lv_at hl 0 rfl) ?_
      refine lv_if_ne (tgt := 67) hx hb d_M_line_60 (by decide) (fun cz => absurd (by decide) cz) (fun _ => ?_)
      refine lv_iconst (v := 1) hx hb d_M_line_63 (by decide) ?_
      refine lv_goto (tgt := 81) hx hb d_M_line_64 (by decide) ?_
      refine va_put (D := (dC, dI)) (ci := 2) (v := .int 1) (ty := .int) (C := RM) (T := TM) (N := 15) hx hb hts i_M tyM tyM_ok nmM hown hK hP hD hS 0 rfl rfl 0 (by decide) (hts _ m_376) (fun _ h9 => h9) rfl (by decide +kernel) rfl rfl (Nat.le_of_ble_eq_true rfl) d_M_line_81 (fun H locs hP hD hS => ?_)
      have hP : va_P (dC, dI) vwCl [(h 0, .inr (2, [.int 1, .int (MS.lines st), .ref (h 1), .int (MS.cuts st), .ref (h 2), .ref (h 3), .int (MS.curves st), .ref (h 4), .ref (h 5), .long (MS.up st), .long (MS.down st), .long (MS.xu st), .long (MS.xd st), .int (MS.strip st), .int (MS.place st)])), (h 1, .inl (k 1, 18, .inl (MS.num st))), (h 2, .inl (k 2, 24, .inr (.inl (MS.cu st)))), (h 3, .inl (k 3, 24, .inr (.inl (MS.cd st)))), (h 4, .inl (k 4, 6, .inr (.inl (MS.yu st)))), (h 5, .inl (k 5, 6, .inr (.inl (MS.yd st))))] H := hP
      have hD : va_D A [(h 0, .inr (2, [.int 1, .int (MS.lines st), .ref (h 1), .int (MS.cuts st), .ref (h 2), .ref (h 3), .int (MS.curves st), .ref (h 4), .ref (h 5), .long (MS.up st), .long (MS.down st), .long (MS.xu st), .long (MS.xd st), .int (MS.strip st), .int (MS.place st)])), (h 1, .inl (k 1, 18, .inl (MS.num st))), (h 2, .inl (k 2, 24, .inr (.inl (MS.cu st)))), (h 3, .inl (k 3, 24, .inr (.inl (MS.cd st)))), (h 4, .inl (k 4, 6, .inr (.inl (MS.yu st)))), (h 5, .inl (k 5, 6, .inr (.inl (MS.yd st))))] := hD
      refine lv_aload_n hx hb d_M_line_84 rfl (lv_at hl 1 rfl) ?_
      refine va_get (D := (dC, dI)) (ci := 2) (v := .int 1) (C := RM) (T := TM) (N := 15) hx hb hts i_M hown hK hP 0 rfl rfl 0 (by decide) (hts _ m_376) (fun _ h9 => h9) rfl d_M_line_85 ?_
      refine lv_if_le (tgt := 93) hx hb d_M_line_88 (by decide) (fun cz => absurd cz (by decide)) (fun _ => ?_)
      refine lv_iconst (v := 0) hx hb d_M_line_91 (by decide) ?_
      have hP : va_P (dC, dI) vwCl (WM h k (1, (MS.lines st), (MS.num st), (MS.cuts st), (MS.cu st), (MS.cd st), (MS.curves st), (MS.yu st), (MS.yd st), (MS.up st), (MS.down st), (MS.xu st), (MS.xd st), (MS.strip st), (MS.place st))) _ := hP
      have hD : va_D A (WM h k (1, (MS.lines st), (MS.num st), (MS.cuts st), (MS.cu st), (MS.cd st), (MS.curves st), (MS.yu st), (MS.yd st), (MS.up st), (MS.down st), (MS.xu st), (MS.xd st), (MS.strip st), (MS.place st))) := hD
      exact W.iret (v := 0) hx hb hr (fun t ht hW => ⟨⟨0, (1, (MS.lines st), (MS.num st), (MS.cuts st), (MS.cu st), (MS.cd st), (MS.curves st), (MS.yu st), (MS.yd st), (MS.up st), (MS.down st), (MS.xu st), (MS.xd st), (MS.strip st), (MS.place st)), rfl, hw, by rw [ht]; exact hP, hD⟩, hS.F ht⟩) hS.2.2 d_M_line_92
    · skip
      have hw := hw.2 c4
      refine lv_iload_n hx hb d_M_line_28 rfl (lv_at hl 3 rfl) ?_
      refine lv_i2l (v := p2.toInt64) hx hb d_M_line_29 rfl ?_
      refine lv_ldc2 (v := (-6)) hx hb hown (hts _ m_430) d_M_line_30 ?_
      refine lv_ldc2 (v := 6) hx hb hown (hts _ m_431) d_M_line_33 ?_
      refine vp_callSi (va_Run.run (va_runS (As := [.long p2.toInt64, .long (-6), .long 6]) (rest := []) ⟨hx, hb, hml, hown, hts⟩ (t_M_in l p2.toInt64 ((-6) : Int64) (6 : Int64) hw) (va_cwS 3 hts (gS m_432 m_433 m_5 (cw_call m_434)) rfl rfl rfl (by decide +kernel) ⟨Nat.le_of_ble_eq_true rfl, Nat.le_of_ble_eq_true rfl⟩) ⟨pSt_bl, fun U hU hW => ⟨rfl, trivial⟩⟩ rfl rfl hl.1 rfl (lv_room (Nat.le_of_ble_eq_true rfl)) d_M_line_36 ⟨Nat.le_of_ble_eq_true rfl, Nat.le_of_ble_eq_true rfl⟩)) (fun r5 hw => ?_)
      refine lv_if_eq (tgt := 54) hx hb d_M_line_39 (by decide) (fun c6 => ?_) (fun c6 => ?_)
      · skip
        have hw := hw.1 c6
        refine lv_iconst (v := 0) hx hb d_M_line_54 (by decide) ?_
        refine lv_istore (lv' := [(4, .int 0), (0, .ref (h 0)), (1, .int p0), (2, .int p1), (3, .int p2)]) hx hb d_M_line_55 hl (by decide) rfl (fun ls hl => ?_)
        refine lv_aload_n hx hb d_M_line_57 rfl (lv_at hl 1 rfl) ?_
        refine lv_iload hx hb d_M_line_58 (lv_at hl 0 rfl) ?_
        refine lv_if_ne (tgt := 67) hx hb d_M_line_60 (by decide) (fun cz => absurd (by decide) cz) (fun _ => ?_)
        refine lv_iconst (v := 1) hx hb d_M_line_63 (by decide) ?_
        refine lv_goto (tgt := 81) hx hb d_M_line_64 (by decide) ?_
        refine va_put (D := (dC, dI)) (ci := 2) (v := .int 1) (ty := .int) (C := RM) (T := TM) (N := 15) hx hb hts i_M tyM tyM_ok nmM hown hK hP hD hS 0 rfl rfl 0 (by decide) (hts _ m_376) (fun _ h9 => h9) rfl (by decide +kernel) rfl rfl (Nat.le_of_ble_eq_true rfl) d_M_line_81 (fun H locs hP hD hS => ?_)
        have hP : va_P (dC, dI) vwCl [(h 0, .inr (2, [.int 1, .int (MS.lines st), .ref (h 1), .int (MS.cuts st), .ref (h 2), .ref (h 3), .int (MS.curves st), .ref (h 4), .ref (h 5), .long (MS.up st), .long (MS.down st), .long (MS.xu st), .long (MS.xd st), .int (MS.strip st), .int (MS.place st)])), (h 1, .inl (k 1, 18, .inl (MS.num st))), (h 2, .inl (k 2, 24, .inr (.inl (MS.cu st)))), (h 3, .inl (k 3, 24, .inr (.inl (MS.cd st)))), (h 4, .inl (k 4, 6, .inr (.inl (MS.yu st)))), (h 5, .inl (k 5, 6, .inr (.inl (MS.yd st))))] H := hP
        have hD : va_D A [(h 0, .inr (2, [.int 1, .int (MS.lines st), .ref (h 1), .int (MS.cuts st), .ref (h 2), .ref (h 3), .int (MS.curves st), .ref (h 4), .ref (h 5), .long (MS.up st), .long (MS.down st), .long (MS.xu st), .long (MS.xd st), .int (MS.strip st), .int (MS.place st)])), (h 1, .inl (k 1, 18, .inl (MS.num st))), (h 2, .inl (k 2, 24, .inr (.inl (MS.cu st)))), (h 3, .inl (k 3, 24, .inr (.inl (MS.cd st)))), (h 4, .inl (k 4, 6, .inr (.inl (MS.yu st)))), (h 5, .inl (k 5, 6, .inr (.inl (MS.yd st))))] := hD
        refine lv_aload_n hx hb d_M_line_84 rfl (lv_at hl 1 rfl) ?_
        refine va_get (D := (dC, dI)) (ci := 2) (v := .int 1) (C := RM) (T := TM) (N := 15) hx hb hts i_M hown hK hP 0 rfl rfl 0 (by decide) (hts _ m_376) (fun _ h9 => h9) rfl d_M_line_85 ?_
        refine lv_if_le (tgt := 93) hx hb d_M_line_88 (by decide) (fun cz => absurd cz (by decide)) (fun _ => ?_)
        refine lv_iconst (v := 0) hx hb d_M_line_91 (by decide) ?_
        have hP : va_P (dC, dI) vwCl (WM h k (1, (MS.lines st), (MS.num st), (MS.cuts st), (MS.cu st), (MS.cd st), (MS.curves st), (MS.yu st), (MS.yd st), (MS.up st), (MS.down st), (MS.xu st), (MS.xd st), (MS.strip st), (MS.place st))) _ := hP
        have hD : va_D A (WM h k (1, (MS.lines st), (MS.num st), (MS.cuts st), (MS.cu st), (MS.cd st), (MS.curves st), (MS.yu st), (MS.yd st), (MS.up st), (MS.down st), (MS.xu st), (MS.xd st), (MS.strip st), (MS.place st))) := hD
        exact W.iret (v := 0) hx hb hr (fun t ht hW => ⟨⟨0, (1, (MS.lines st), (MS.num st), (MS.cuts st), (MS.cu st), (MS.cd st), (MS.curves st), (MS.yu st), (MS.yd st), (MS.up st), (MS.down st), (MS.xu st), (MS.xd st), (MS.strip st), (MS.place st)), rfl, hw, by rw [ht]; exact hP, hD⟩, hS.F ht⟩) hS.2.2 d_M_line_92
      · skip
        have hw := hw.2 c6
        refine lv_iload_n hx hb d_M_line_42 rfl (lv_at hl 1 rfl) ?_
        refine lv_if_ne (tgt := 50) hx hb d_M_line_43 (by decide) (fun c7 => ?_) (fun c7 => ?_)
        · skip
          have hw := hw.1 c7
          refine lv_iconst (v := 1) hx hb d_M_line_50 (by decide) ?_
          refine lv_goto (tgt := 55) hx hb d_M_line_51 (by decide) ?_
          refine lv_istore (lv' := [(4, .int 1), (0, .ref (h 0)), (1, .int p0), (2, .int p1), (3, .int p2)]) hx hb d_M_line_55 hl (by decide) rfl (fun ls hl => ?_)
          refine lv_aload_n hx hb d_M_line_57 rfl (lv_at hl 1 rfl) ?_
          refine lv_iload hx hb d_M_line_58 (lv_at hl 0 rfl) ?_
          refine lv_if_ne (tgt := 67) hx hb d_M_line_60 (by decide) (fun _ => ?_) (fun cz => absurd cz (by decide))
          refine lv_aload_n hx hb d_M_line_67 rfl (lv_at hl 1 rfl) ?_
          refine va_get (D := (dC, dI)) (ci := 2) (v := .int (MS.lines st)) (C := RM) (T := TM) (N := 15) hx hb hts i_M hown hK hP 0 rfl rfl 1 (by decide) (hts _ m_377) (fun _ h9 => h9) rfl d_M_line_68 ?_
          refine lv_bipush (v := 6) hx hb d_M_line_71 (by decide) ?_
          refine lv_icmp_ne (tgt := 80) hx hb d_M_line_73 (by decide) (fun c8 => ?_) (fun c8 => ?_)
          · skip
            have hw := hw.1 c8
            refine lv_iconst (v := 0) hx hb d_M_line_80 (by decide) ?_
            refine va_put (D := (dC, dI)) (ci := 2) (v := .int 0) (ty := .int) (C := RM) (T := TM) (N := 15) hx hb hts i_M tyM tyM_ok nmM hown hK hP hD hS 0 rfl rfl 0 (by decide) (hts _ m_376) (fun _ h9 => h9) rfl (by decide +kernel) rfl rfl (Nat.le_of_ble_eq_true rfl) d_M_line_81 (fun H locs hP hD hS => ?_)
            have hP : va_P (dC, dI) vwCl [(h 0, .inr (2, [.int 0, .int (MS.lines st), .ref (h 1), .int (MS.cuts st), .ref (h 2), .ref (h 3), .int (MS.curves st), .ref (h 4), .ref (h 5), .long (MS.up st), .long (MS.down st), .long (MS.xu st), .long (MS.xd st), .int (MS.strip st), .int (MS.place st)])), (h 1, .inl (k 1, 18, .inl (MS.num st))), (h 2, .inl (k 2, 24, .inr (.inl (MS.cu st)))), (h 3, .inl (k 3, 24, .inr (.inl (MS.cd st)))), (h 4, .inl (k 4, 6, .inr (.inl (MS.yu st)))), (h 5, .inl (k 5, 6, .inr (.inl (MS.yd st))))] H := hP
            have hD : va_D A [(h 0, .inr (2, [.int 0, .int (MS.lines st), .ref (h 1), .int (MS.cuts st), .ref (h 2), .ref (h 3), .int (MS.curves st), .ref (h 4), .ref (h 5), .long (MS.up st), .long (MS.down st), .long (MS.xu st), .long (MS.xd st), .int (MS.strip st), .int (MS.place st)])), (h 1, .inl (k 1, 18, .inl (MS.num st))), (h 2, .inl (k 2, 24, .inr (.inl (MS.cu st)))), (h 3, .inl (k 3, 24, .inr (.inl (MS.cd st)))), (h 4, .inl (k 4, 6, .inr (.inl (MS.yu st)))), (h 5, .inl (k 5, 6, .inr (.inl (MS.yd st))))] := hD
            refine lv_aload_n hx hb d_M_line_84 rfl (lv_at hl 1 rfl) ?_
            refine va_get (D := (dC, dI)) (ci := 2) (v := .int 0) (C := RM) (T := TM) (N := 15) hx hb hts i_M hown hK hP 0 rfl rfl 0 (by decide) (hts _ m_376) (fun _ h9 => h9) rfl d_M_line_85 ?_
            refine lv_if_le (tgt := 93) hx hb d_M_line_88 (by decide) (fun _ => ?_) (fun cz => absurd (by decide) cz)
            refine lv_aload_n hx hb d_M_line_93 rfl (lv_at hl 1 rfl) ?_
            refine va_get (D := (dC, dI)) (ci := 2) (v := .ref (h 1)) (C := RM) (T := TM) (N := 15) hx hb hts i_M hown hK hP 0 rfl rfl 2 (by decide) (hts _ m_378) (fun _ h9 => h9) rfl d_M_line_94 ?_
            refine lv_iconst (v := 3) hx hb d_M_line_97 (by decide) ?_
            refine lv_aload_n hx hb d_M_line_98 rfl (lv_at hl 1 rfl) ?_
            refine va_get (D := (dC, dI)) (ci := 2) (v := .int (MS.lines st)) (C := RM) (T := TM) (N := 15) hx hb hts i_M hown hK hP 0 rfl rfl 1 (by decide) (hts _ m_377) (fun _ h9 => h9) rfl d_M_line_99 ?_
            refine lv_imul hx hb d_M_line_102 ?_
            refine lv_iload_n hx hb d_M_line_103 rfl (lv_at hl 2 rfl) ?_
            obtain ⟨h9, hw⟩ := hw
            refine va_iast hx hb hK hP hD hS 1 0 rfl rfl h9 d_M_line_104 (fun H locs hP hD hS => ?_)
            have hP : va_P (dC, dI) vwCl [(h 0, .inr (2, [.int 0, .int (MS.lines st), .ref (h 1), .int (MS.cuts st), .ref (h 2), .ref (h 3), .int (MS.curves st), .ref (h 4), .ref (h 5), .long (MS.up st), .long (MS.down st), .long (MS.xu st), .long (MS.xd st), .int (MS.strip st), .int (MS.place st)])), (h 1, .inl (k 1, 18, .inl (upd (MS.num st) (3 * (MS.lines st)).toNatClampNeg p0))), (h 2, .inl (k 2, 24, .inr (.inl (MS.cu st)))), (h 3, .inl (k 3, 24, .inr (.inl (MS.cd st)))), (h 4, .inl (k 4, 6, .inr (.inl (MS.yu st)))), (h 5, .inl (k 5, 6, .inr (.inl (MS.yd st))))] H := hP
            have hD : va_D A [(h 0, .inr (2, [.int 0, .int (MS.lines st), .ref (h 1), .int (MS.cuts st), .ref (h 2), .ref (h 3), .int (MS.curves st), .ref (h 4), .ref (h 5), .long (MS.up st), .long (MS.down st), .long (MS.xu st), .long (MS.xd st), .int (MS.strip st), .int (MS.place st)])), (h 1, .inl (k 1, 18, .inl (upd (MS.num st) (3 * (MS.lines st)).toNatClampNeg p0))), (h 2, .inl (k 2, 24, .inr (.inl (MS.cu st)))), (h 3, .inl (k 3, 24, .inr (.inl (MS.cd st)))), (h 4, .inl (k 4, 6, .inr (.inl (MS.yu st)))), (h 5, .inl (k 5, 6, .inr (.inl (MS.yd st))))] := hD
            refine lv_aload_n hx hb d_M_line_105 rfl (lv_at hl 1 rfl) ?_
            refine va_get (D := (dC, dI)) (ci := 2) (v := .ref (h 1)) (C := RM) (T := TM) (N := 15) hx hb hts i_M hown hK hP 0 rfl rfl 2 (by decide) (hts _ m_378) (fun _ h9 => h9) rfl d_M_line_106 ?_
            refine lv_iconst (v := 3) hx hb d_M_line_109 (by decide) ?_
            refine lv_aload_n hx hb d_M_line_110 rfl (lv_at hl 1 rfl) ?_
            refine va_get (D := (dC, dI)) (ci := 2) (v := .int (MS.lines st)) (C := RM) (T := TM) (N := 15) hx hb hts i_M hown hK hP 0 rfl rfl 1 (by decide) (hts _ m_377) (fun _ h9 => h9) rfl d_M_line_111 ?_
            refine lv_imul hx hb d_M_line_114 ?_
            refine lv_iconst (v := 1) hx hb d_M_line_115 (by decide) ?_
            refine lv_iadd hx hb d_M_line_116 ?_
            refine lv_iload_n hx hb d_M_line_117 rfl (lv_at hl 3 rfl) ?_
            obtain ⟨h10, hw⟩ := hw
            refine va_iast hx hb hK hP hD hS 1 0 rfl rfl h10 d_M_line_118 (fun H locs hP hD hS => ?_)
            have hP : va_P (dC, dI) vwCl [(h 0, .inr (2, [.int 0, .int (MS.lines st), .ref (h 1), .int (MS.cuts st), .ref (h 2), .ref (h 3), .int (MS.curves st), .ref (h 4), .ref (h 5), .long (MS.up st), .long (MS.down st), .long (MS.xu st), .long (MS.xd st), .int (MS.strip st), .int (MS.place st)])), (h 1, .inl (k 1, 18, .inl (upd (upd (MS.num st) (3 * (MS.lines st)).toNatClampNeg p0) ((3 * (MS.lines st)) + 1).toNatClampNeg p1))), (h 2, .inl (k 2, 24, .inr (.inl (MS.cu st)))), (h 3, .inl (k 3, 24, .inr (.inl (MS.cd st)))), (h 4, .inl (k 4, 6, .inr (.inl (MS.yu st)))), (h 5, .inl (k 5, 6, .inr (.inl (MS.yd st))))] H := hP
            have hD : va_D A [(h 0, .inr (2, [.int 0, .int (MS.lines st), .ref (h 1), .int (MS.cuts st), .ref (h 2), .ref (h 3), .int (MS.curves st), .ref (h 4), .ref (h 5), .long (MS.up st), .long (MS.down st), .long (MS.xu st), .long (MS.xd st), .int (MS.strip st), .int (MS.place st)])), (h 1, .inl (k 1, 18, .inl (upd (upd (MS.num st) (3 * (MS.lines st)).toNatClampNeg p0) ((3 * (MS.lines st)) + 1).toNatClampNeg p1))), (h 2, .inl (k 2, 24, .inr (.inl (MS.cu st)))), (h 3, .inl (k 3, 24, .inr (.inl (MS.cd st)))), (h 4, .inl (k 4, 6, .inr (.inl (MS.yu st)))), (h 5, .inl (k 5, 6, .inr (.inl (MS.yd st))))] := hD
            refine lv_aload_n hx hb d_M_line_119 rfl (lv_at hl 1 rfl) ?_
            refine va_get (D := (dC, dI)) (ci := 2) (v := .ref (h 1)) (C := RM) (T := TM) (N := 15) hx hb hts i_M hown hK hP 0 rfl rfl 2 (by decide) (hts _ m_378) (fun _ h9 => h9) rfl d_M_line_120 ?_
            refine lv_iconst (v := 3) hx hb d_M_line_123 (by decide) ?_
            refine lv_aload_n hx hb d_M_line_124 rfl (lv_at hl 1 rfl) ?_
            refine va_get (D := (dC, dI)) (ci := 2) (v := .int (MS.lines st)) (C := RM) (T := TM) (N := 15) hx hb hts i_M hown hK hP 0 rfl rfl 1 (by decide) (hts _ m_377) (fun _ h9 => h9) rfl d_M_line_125 ?_
            refine lv_imul hx hb d_M_line_128 ?_
            refine lv_iconst (v := 2) hx hb d_M_line_129 (by decide) ?_
            refine lv_iadd hx hb d_M_line_130 ?_
            refine lv_iload_n hx hb d_M_line_131 rfl (lv_at hl 4 rfl) ?_
            obtain ⟨h11, hw⟩ := hw
            refine va_iast hx hb hK hP hD hS 1 0 rfl rfl h11 d_M_line_132 (fun H locs hP hD hS => ?_)
            have hP : va_P (dC, dI) vwCl [(h 0, .inr (2, [.int 0, .int (MS.lines st), .ref (h 1), .int (MS.cuts st), .ref (h 2), .ref (h 3), .int (MS.curves st), .ref (h 4), .ref (h 5), .long (MS.up st), .long (MS.down st), .long (MS.xu st), .long (MS.xd st), .int (MS.strip st), .int (MS.place st)])), (h 1, .inl (k 1, 18, .inl (upd (upd (upd (MS.num st) (3 * (MS.lines st)).toNatClampNeg p0) ((3 * (MS.lines st)) + 1).toNatClampNeg p1) ((3 * (MS.lines st)) + 2).toNatClampNeg p2))), (h 2, .inl (k 2, 24, .inr (.inl (MS.cu st)))), (h 3, .inl (k 3, 24, .inr (.inl (MS.cd st)))), (h 4, .inl (k 4, 6, .inr (.inl (MS.yu st)))), (h 5, .inl (k 5, 6, .inr (.inl (MS.yd st))))] H := hP
            have hD : va_D A [(h 0, .inr (2, [.int 0, .int (MS.lines st), .ref (h 1), .int (MS.cuts st), .ref (h 2), .ref (h 3), .int (MS.curves st), .ref (h 4), .ref (h 5), .long (MS.up st), .long (MS.down st), .long (MS.xu st), .long (MS.xd st), .int (MS.strip st), .int (MS.place st)])), (h 1, .inl (k 1, 18, .inl (upd (upd (upd (MS.num st) (3 * (MS.lines st)).toNatClampNeg p0) ((3 * (MS.lines st)) + 1).toNatClampNeg p1) ((3 * (MS.lines st)) + 2).toNatClampNeg p2))), (h 2, .inl (k 2, 24, .inr (.inl (MS.cu st)))), (h 3, .inl (k 3, 24, .inr (.inl (MS.cd st)))), (h 4, .inl (k 4, 6, .inr (.inl (MS.yu st)))), (h 5, .inl (k 5, 6, .inr (.inl (MS.yd st))))] := hD
            refine lv_aload_n hx hb d_M_line_133 rfl (lv_at hl 1 rfl) ?_
            refine lv_dup hx hb d_M_line_134 rfl ?_
            refine va_get (D := (dC, dI)) (ci := 2) (v := .int (MS.lines st)) (C := RM) (T := TM) (N := 15) hx hb hts i_M hown hK hP 0 rfl rfl 1 (by decide) (hts _ m_377) (fun _ h9 => h9) rfl d_M_line_135 ?_
            refine lv_iconst (v := 1) hx hb d_M_line_138 (by decide) ?_
            refine lv_iadd hx hb d_M_line_139 ?_
            refine va_put (D := (dC, dI)) (ci := 2) (v := .int ((MS.lines st) + 1)) (ty := .int) (C := RM) (T := TM) (N := 15) hx hb hts i_M tyM tyM_ok nmM hown hK hP hD hS 0 rfl rfl 1 (by decide) (hts _ m_377) (fun _ h9 => h9) rfl (by decide +kernel) rfl rfl (Nat.le_of_ble_eq_true rfl) d_M_line_140 (fun H locs hP hD hS => ?_)
            have hP : va_P (dC, dI) vwCl [(h 0, .inr (2, [.int 0, .int ((MS.lines st) + 1), .ref (h 1), .int (MS.cuts st), .ref (h 2), .ref (h 3), .int (MS.curves st), .ref (h 4), .ref (h 5), .long (MS.up st), .long (MS.down st), .long (MS.xu st), .long (MS.xd st), .int (MS.strip st), .int (MS.place st)])), (h 1, .inl (k 1, 18, .inl (upd (upd (upd (MS.num st) (3 * (MS.lines st)).toNatClampNeg p0) ((3 * (MS.lines st)) + 1).toNatClampNeg p1) ((3 * (MS.lines st)) + 2).toNatClampNeg p2))), (h 2, .inl (k 2, 24, .inr (.inl (MS.cu st)))), (h 3, .inl (k 3, 24, .inr (.inl (MS.cd st)))), (h 4, .inl (k 4, 6, .inr (.inl (MS.yu st)))), (h 5, .inl (k 5, 6, .inr (.inl (MS.yd st))))] H := hP
            have hD : va_D A [(h 0, .inr (2, [.int 0, .int ((MS.lines st) + 1), .ref (h 1), .int (MS.cuts st), .ref (h 2), .ref (h 3), .int (MS.curves st), .ref (h 4), .ref (h 5), .long (MS.up st), .long (MS.down st), .long (MS.xu st), .long (MS.xd st), .int (MS.strip st), .int (MS.place st)])), (h 1, .inl (k 1, 18, .inl (upd (upd (upd (MS.num st) (3 * (MS.lines st)).toNatClampNeg p0) ((3 * (MS.lines st)) + 1).toNatClampNeg p1) ((3 * (MS.lines st)) + 2).toNatClampNeg p2))), (h 2, .inl (k 2, 24, .inr (.inl (MS.cu st)))), (h 3, .inl (k 3, 24, .inr (.inl (MS.cd st)))), (h 4, .inl (k 4, 6, .inr (.inl (MS.yu st)))), (h 5, .inl (k 5, 6, .inr (.inl (MS.yd st))))] := hD
            refine lv_aload_n hx hb d_M_line_143 rfl (lv_at hl 1 rfl) ?_
            have hP : va_P (dC, dI) vwCl (WM h k (0, ((MS.lines st) + 1), (upd (upd (upd (MS.num st) (3 * (MS.lines st)).toNatClampNeg p0) ((3 * (MS.lines st)) + 1).toNatClampNeg p1) ((3 * (MS.lines st)) + 2).toNatClampNeg p2), (MS.cuts st), (MS.cu st), (MS.cd st), (MS.curves st), (MS.yu st), (MS.yd st), (MS.up st), (MS.down st), (MS.xu st), (MS.xd st), (MS.strip st), (MS.place st))) _ := hP
            have hD : va_D A (WM h k (0, ((MS.lines st) + 1), (upd (upd (upd (MS.num st) (3 * (MS.lines st)).toNatClampNeg p0) ((3 * (MS.lines st)) + 1).toNatClampNeg p1) ((3 * (MS.lines st)) + 2).toNatClampNeg p2), (MS.cuts st), (MS.cu st), (MS.cd st), (MS.curves st), (MS.yu st), (MS.yd st), (MS.up st), (MS.down st), (MS.xu st), (MS.xd st), (MS.strip st), (MS.place st))) := hD
            have hFc := va_freeA hD hS hA
            refine va_callv (va_runV (As := []) (rest := []) ⟨hx, hb, hml, hown, hts⟩ (t_M_look l dC dI h k _ (0, ((MS.lines st) + 1), (upd (upd (upd (MS.num st) (3 * (MS.lines st)).toNatClampNeg p0) ((3 * (MS.lines st)) + 1).toNatClampNeg p1) ((3 * (MS.lines st)) + 2).toNatClampNeg p2), (MS.cuts st), (MS.cu st), (MS.cd st), (MS.curves st), (MS.yu st), (MS.yd st), (MS.up st), (MS.down st), (MS.xu st), (MS.xd st), (MS.strip st), (MS.place st))  hw) (cwV 0 hts (gV m_435 m_437 s_16 m_5 (cw_call m_438)) rfl rfl rfl (by decide +kernel) ⟨Nat.le_of_ble_eq_true rfl, Nat.le_of_ble_eq_true rfl⟩) ⟨pRw_bl, va_recv hK hP (ci := 2) (q0 := 0) rfl rfl, fun U hU hW => ⟨rfl, pRw_at hP hK hN hD hU hW⟩⟩ rfl rfl hl.1 rfl (lv_room (Nat.le_of_ble_eq_true rfl)) d_M_line_144 ⟨Nat.le_of_ble_eq_true rfl, Nat.le_of_ble_eq_true rfl⟩) hS (fun q _ h => hFc q h) hFc (fun u12 t H1 locs ht hvm hw hB hz1 hk1 hS => ?_)
            obtain ⟨hP1, hD1⟩ := hB
            rw [ht] at hP1
            have hP := hP1
            have hD := hD1.weaken (fun _ q _ h => hFc q.1 h)
            generalize H1 = H at hP hS ⊢
            have hP : va_P (dC, dI) vwCl (WM h k u12) H := hP
            have hD : va_D A (WM h k u12) := hD
            refine lv_aload_n hx hb d_M_line_147 rfl (lv_at hl 1 rfl) ?_
            refine va_get (D := (dC, dI)) (ci := 2) (v := .int (MS.lines u12)) (C := RM) (T := TM) (N := 15) hx hb hts i_M hown hK hP 0 rfl rfl 1 (by decide) (hts _ m_377) (fun _ h9 => h9) rfl d_M_line_148 ?_
            refine lv_iconst (v := 1) hx hb d_M_line_151 (by decide) ?_
            refine lv_isub hx hb d_M_line_152 ?_
            exact W.iret (v := ((MS.lines u12) - 1)) hx hb hr (fun t ht hW => ⟨⟨((MS.lines u12) - 1), u12, rfl, hw, by rw [ht]; exact hP, hD⟩, hS.F ht⟩) hS.2.2 d_M_line_153
          · skip
            have hw := hw.2 c8
            refine lv_iconst (v := 2) hx hb d_M_line_76 (by decide) ?_
            refine lv_goto (tgt := 81) hx hb d_M_line_77 (by decide) ?_
            refine va_put (D := (dC, dI)) (ci := 2) (v := .int 2) (ty := .int) (C := RM) (T := TM) (N := 15) hx hb hts i_M tyM tyM_ok nmM hown hK hP hD hS 0 rfl rfl 0 (by decide) (hts _ m_376) (fun _ h9 => h9) rfl (by decide +kernel) rfl rfl (Nat.le_of_ble_eq_true rfl) d_M_line_81 (fun H locs hP hD hS => ?_)
            have hP : va_P (dC, dI) vwCl [(h 0, .inr (2, [.int 2, .int (MS.lines st), .ref (h 1), .int (MS.cuts st), .ref (h 2), .ref (h 3), .int (MS.curves st), .ref (h 4), .ref (h 5), .long (MS.up st), .long (MS.down st), .long (MS.xu st), .long (MS.xd st), .int (MS.strip st), .int (MS.place st)])), (h 1, .inl (k 1, 18, .inl (MS.num st))), (h 2, .inl (k 2, 24, .inr (.inl (MS.cu st)))), (h 3, .inl (k 3, 24, .inr (.inl (MS.cd st)))), (h 4, .inl (k 4, 6, .inr (.inl (MS.yu st)))), (h 5, .inl (k 5, 6, .inr (.inl (MS.yd st))))] H := hP
            have hD : va_D A [(h 0, .inr (2, [.int 2, .int (MS.lines st), .ref (h 1), .int (MS.cuts st), .ref (h 2), .ref (h 3), .int (MS.curves st), .ref (h 4), .ref (h 5), .long (MS.up st), .long (MS.down st), .long (MS.xu st), .long (MS.xd st), .int (MS.strip st), .int (MS.place st)])), (h 1, .inl (k 1, 18, .inl (MS.num st))), (h 2, .inl (k 2, 24, .inr (.inl (MS.cu st)))), (h 3, .inl (k 3, 24, .inr (.inl (MS.cd st)))), (h 4, .inl (k 4, 6, .inr (.inl (MS.yu st)))), (h 5, .inl (k 5, 6, .inr (.inl (MS.yd st))))] := hD
            refine lv_aload_n hx hb d_M_line_84 rfl (lv_at hl 1 rfl) ?_
            refine va_get (D := (dC, dI)) (ci := 2) (v := .int 2) (C := RM) (T := TM) (N := 15) hx hb hts i_M hown hK hP 0 rfl rfl 0 (by decide) (hts _ m_376) (fun _ h9 => h9) rfl d_M_line_85 ?_
            refine lv_if_le (tgt := 93) hx hb d_M_line_88 (by decide) (fun cz => absurd cz (by decide)) (fun _ => ?_)
            refine lv_iconst (v := 0) hx hb d_M_line_91 (by decide) ?_
            have hP : va_P (dC, dI) vwCl (WM h k (2, (MS.lines st), (MS.num st), (MS.cuts st), (MS.cu st), (MS.cd st), (MS.curves st), (MS.yu st), (MS.yd st), (MS.up st), (MS.down st), (MS.xu st), (MS.xd st), (MS.strip st), (MS.place st))) _ := hP
            have hD : va_D A (WM h k (2, (MS.lines st), (MS.num st), (MS.cuts st), (MS.cu st), (MS.cd st), (MS.curves st), (MS.yu st), (MS.yd st), (MS.up st), (MS.down st), (MS.xu st), (MS.xd st), (MS.strip st), (MS.place st))) := hD
            exact W.iret (v := 0) hx hb hr (fun t ht hW => ⟨⟨0, (2, (MS.lines st), (MS.num st), (MS.cuts st), (MS.cu st), (MS.cd st), (MS.curves st), (MS.yu st), (MS.yd st), (MS.up st), (MS.down st), (MS.xu st), (MS.xd st), (MS.strip st), (MS.place st)), rfl, hw, by rw [ht]; exact hP, hD⟩, hS.F ht⟩) hS.2.2 d_M_line_92
        · skip
          have hw := hw.2 c7
          refine lv_iload_n hx hb d_M_line_46 rfl (lv_at hl 2 rfl) ?_
          refine lv_if_eq (tgt := 54) hx hb d_M_line_47 (by decide) (fun c13 => ?_) (fun c13 => ?_)
          · skip
            have hw := hw.1 c13
            refine lv_iconst (v := 0) hx hb d_M_line_54 (by decide) ?_
            refine lv_istore (lv' := [(4, .int 0), (0, .ref (h 0)), (1, .int p0), (2, .int p1), (3, .int p2)]) hx hb d_M_line_55 hl (by decide) rfl (fun ls hl => ?_)
            refine lv_aload_n hx hb d_M_line_57 rfl (lv_at hl 1 rfl) ?_
            refine lv_iload hx hb d_M_line_58 (lv_at hl 0 rfl) ?_
            refine lv_if_ne (tgt := 67) hx hb d_M_line_60 (by decide) (fun cz => absurd (by decide) cz) (fun _ => ?_)
            refine lv_iconst (v := 1) hx hb d_M_line_63 (by decide) ?_
            refine lv_goto (tgt := 81) hx hb d_M_line_64 (by decide) ?_
            refine va_put (D := (dC, dI)) (ci := 2) (v := .int 1) (ty := .int) (C := RM) (T := TM) (N := 15) hx hb hts i_M tyM tyM_ok nmM hown hK hP hD hS 0 rfl rfl 0 (by decide) (hts _ m_376) (fun _ h9 => h9) rfl (by decide +kernel) rfl rfl (Nat.le_of_ble_eq_true rfl) d_M_line_81 (fun H locs hP hD hS => ?_)
            have hP : va_P (dC, dI) vwCl [(h 0, .inr (2, [.int 1, .int (MS.lines st), .ref (h 1), .int (MS.cuts st), .ref (h 2), .ref (h 3), .int (MS.curves st), .ref (h 4), .ref (h 5), .long (MS.up st), .long (MS.down st), .long (MS.xu st), .long (MS.xd st), .int (MS.strip st), .int (MS.place st)])), (h 1, .inl (k 1, 18, .inl (MS.num st))), (h 2, .inl (k 2, 24, .inr (.inl (MS.cu st)))), (h 3, .inl (k 3, 24, .inr (.inl (MS.cd st)))), (h 4, .inl (k 4, 6, .inr (.inl (MS.yu st)))), (h 5, .inl (k 5, 6, .inr (.inl (MS.yd st))))] H := hP
            have hD : va_D A [(h 0, .inr (2, [.int 1, .int (MS.lines st), .ref (h 1), .int (MS.cuts st), .ref (h 2), .ref (h 3), .int (MS.curves st), .ref (h 4), .ref (h 5), .long (MS.up st), .long (MS.down st), .long (MS.xu st), .long (MS.xd st), .int (MS.strip st), .int (MS.place st)])), (h 1, .inl (k 1, 18, .inl (MS.num st))), (h 2, .inl (k 2, 24, .inr (.inl (MS.cu st)))), (h 3, .inl (k 3, 24, .inr (.inl (MS.cd st)))), (h 4, .inl (k 4, 6, .inr (.inl (MS.yu st)))), (h 5, .inl (k 5, 6, .inr (.inl (MS.yd st))))] := hD
            refine lv_aload_n hx hb d_M_line_84 rfl (lv_at hl 1 rfl) ?_
            refine va_get (D := (dC, dI)) (ci := 2) (v := .int 1) (C := RM) (T := TM) (N := 15) hx hb hts i_M hown hK hP 0 rfl rfl 0 (by decide) (hts _ m_376) (fun _ h9 => h9) rfl d_M_line_85 ?_
            refine lv_if_le (tgt := 93) hx hb d_M_line_88 (by decide) (fun cz => absurd cz (by decide)) (fun _ => ?_)
            refine lv_iconst (v := 0) hx hb d_M_line_91 (by decide) ?_
            have hP : va_P (dC, dI) vwCl (WM h k (1, (MS.lines st), (MS.num st), (MS.cuts st), (MS.cu st), (MS.cd st), (MS.curves st), (MS.yu st), (MS.yd st), (MS.up st), (MS.down st), (MS.xu st), (MS.xd st), (MS.strip st), (MS.place st))) _ := hP
            have hD : va_D A (WM h k (1, (MS.lines st), (MS.num st), (MS.cuts st), (MS.cu st), (MS.cd st), (MS.curves st), (MS.yu st), (MS.yd st), (MS.up st), (MS.down st), (MS.xu st), (MS.xd st), (MS.strip st), (MS.place st))) := hD
            exact W.iret (v := 0) hx hb hr (fun t ht hW => ⟨⟨0, (1, (MS.lines st), (MS.num st), (MS.cuts st), (MS.cu st), (MS.cd st), (MS.curves st), (MS.yu st), (MS.yd st), (MS.up st), (MS.down st), (MS.xu st), (MS.xd st), (MS.strip st), (MS.place st)), rfl, hw, by rw [ht]; exact hP, hD⟩, hS.F ht⟩) hS.2.2 d_M_line_92
          · skip
            have hw := hw.2 c13
            refine lv_iconst (v := 1) hx hb d_M_line_50 (by decide) ?_
            refine lv_goto (tgt := 55) hx hb d_M_line_51 (by decide) ?_
            refine lv_istore (lv' := [(4, .int 1), (0, .ref (h 0)), (1, .int p0), (2, .int p1), (3, .int p2)]) hx hb d_M_line_55 hl (by decide) rfl (fun ls hl => ?_)
            refine lv_aload_n hx hb d_M_line_57 rfl (lv_at hl 1 rfl) ?_
            refine lv_iload hx hb d_M_line_58 (lv_at hl 0 rfl) ?_
            refine lv_if_ne (tgt := 67) hx hb d_M_line_60 (by decide) (fun _ => ?_) (fun cz => absurd cz (by decide))
            refine lv_aload_n hx hb d_M_line_67 rfl (lv_at hl 1 rfl) ?_
            refine va_get (D := (dC, dI)) (ci := 2) (v := .int (MS.lines st)) (C := RM) (T := TM) (N := 15) hx hb hts i_M hown hK hP 0 rfl rfl 1 (by decide) (hts _ m_377) (fun _ h9 => h9) rfl d_M_line_68 ?_
            refine lv_bipush (v := 6) hx hb d_M_line_71 (by decide) ?_
            refine lv_icmp_ne (tgt := 80) hx hb d_M_line_73 (by decide) (fun c14 => ?_) (fun c14 => ?_)
            · skip
              have hw := hw.1 c14
              refine lv_iconst (v := 0) hx hb d_M_line_80 (by decide) ?_
              refine va_put (D := (dC, dI)) (ci := 2) (v := .int 0) (ty := .int) (C := RM) (T := TM) (N := 15) hx hb hts i_M tyM tyM_ok nmM hown hK hP hD hS 0 rfl rfl 0 (by decide) (hts _ m_376) (fun _ h9 => h9) rfl (by decide +kernel) rfl rfl (Nat.le_of_ble_eq_true rfl) d_M_line_81 (fun H locs hP hD hS => ?_)
              have hP : va_P (dC, dI) vwCl [(h 0, .inr (2, [.int 0, .int (MS.lines st), .ref (h 1), .int (MS.cuts st), .ref (h 2), .ref (h 3), .int (MS.curves st), .ref (h 4), .ref (h 5), .long (MS.up st), .long (MS.down st), .long (MS.xu st), .long (MS.xd st), .int (MS.strip st), .int (MS.place st)])), (h 1, .inl (k 1, 18, .inl (MS.num st))), (h 2, .inl (k 2, 24, .inr (.inl (MS.cu st)))), (h 3, .inl (k 3, 24, .inr (.inl (MS.cd st)))), (h 4, .inl (k 4, 6, .inr (.inl (MS.yu st)))), (h 5, .inl (k 5, 6, .inr (.inl (MS.yd st))))] H := hP
              have hD : va_D A [(h 0, .inr (2, [.int 0, .int (MS.lines st), .ref (h 1), .int (MS.cuts st), .ref (h 2), .ref (h 3), .int (MS.curves st), .ref (h 4), .ref (h 5), .long (MS.up st), .long (MS.down st), .long (MS.xu st), .long (MS.xd st), .int (MS.strip st), .int (MS.place st)])), (h 1, .inl (k 1, 18, .inl (MS.num st))), (h 2, .inl (k 2, 24, .inr (.inl (MS.cu st)))), (h 3, .inl (k 3, 24, .inr (.inl (MS.cd st)))), (h 4, .inl (k 4, 6, .inr (.inl (MS.yu st)))), (h 5, .inl (k 5, 6, .inr (.inl (MS.yd st))))] := hD
              refine lv_aload_n hx hb d_M_line_84 rfl (lv_at hl 1 rfl) ?_
              refine va_get (D := (dC, dI)) (ci := 2) (v := .int 0) (C := RM) (T := TM) (N := 15) hx hb hts i_M hown hK hP 0 rfl rfl 0 (by decide) (hts _ m_376) (fun _ h9 => h9) rfl d_M_line_85 ?_
              refine lv_if_le (tgt := 93) hx hb d_M_line_88 (by decide) (fun _ => ?_) (fun cz => absurd (by decide) cz)
              refine lv_aload_n hx hb d_M_line_93 rfl (lv_at hl 1 rfl) ?_
              refine va_get (D := (dC, dI)) (ci := 2) (v := .ref (h 1)) (C := RM) (T := TM) (N := 15) hx hb hts i_M hown hK hP 0 rfl rfl 2 (by decide) (hts _ m_378) (fun _ h9 => h9) rfl d_M_line_94 ?_
              refine lv_iconst (v := 3) hx hb d_M_line_97 (by decide) ?_
              refine lv_aload_n hx hb d_M_line_98 rfl (lv_at hl 1 rfl) ?_
              refine va_get (D := (dC, dI)) (ci := 2) (v := .int (MS.lines st)) (C := RM) (T := TM) (N := 15) hx hb hts i_M hown hK hP 0 rfl rfl 1 (by decide) (hts _ m_377) (fun _ h9 => h9) rfl d_M_line_99 ?_
              refine lv_imul hx hb d_M_line_102 ?_
              refine lv_iload_n hx hb d_M_line_103 rfl (lv_at hl 2 rfl) ?_
              obtain ⟨h15, hw⟩ := hw
              refine va_iast hx hb hK hP hD hS 1 0 rfl rfl h15 d_M_line_104 (fun H locs hP hD hS => ?_)
              have hP : va_P (dC, dI) vwCl [(h 0, .inr (2, [.int 0, .int (MS.lines st), .ref (h 1), .int (MS.cuts st), .ref (h 2), .ref (h 3), .int (MS.curves st), .ref (h 4), .ref (h 5), .long (MS.up st), .long (MS.down st), .long (MS.xu st), .long (MS.xd st), .int (MS.strip st), .int (MS.place st)])), (h 1, .inl (k 1, 18, .inl (upd (MS.num st) (3 * (MS.lines st)).toNatClampNeg p0))), (h 2, .inl (k 2, 24, .inr (.inl (MS.cu st)))), (h 3, .inl (k 3, 24, .inr (.inl (MS.cd st)))), (h 4, .inl (k 4, 6, .inr (.inl (MS.yu st)))), (h 5, .inl (k 5, 6, .inr (.inl (MS.yd st))))] H := hP
              have hD : va_D A [(h 0, .inr (2, [.int 0, .int (MS.lines st), .ref (h 1), .int (MS.cuts st), .ref (h 2), .ref (h 3), .int (MS.curves st), .ref (h 4), .ref (h 5), .long (MS.up st), .long (MS.down st), .long (MS.xu st), .long (MS.xd st), .int (MS.strip st), .int (MS.place st)])), (h 1, .inl (k 1, 18, .inl (upd (MS.num st) (3 * (MS.lines st)).toNatClampNeg p0))), (h 2, .inl (k 2, 24, .inr (.inl (MS.cu st)))), (h 3, .inl (k 3, 24, .inr (.inl (MS.cd st)))), (h 4, .inl (k 4, 6, .inr (.inl (MS.yu st)))), (h 5, .inl (k 5, 6, .inr (.inl (MS.yd st))))] := hD
              refine lv_aload_n hx hb d_M_line_105 rfl (lv_at hl 1 rfl) ?_
              refine va_get (D := (dC, dI)) (ci := 2) (v := .ref (h 1)) (C := RM) (T := TM) (N := 15) hx hb hts i_M hown hK hP 0 rfl rfl 2 (by decide) (hts _ m_378) (fun _ h9 => h9) rfl d_M_line_106 ?_
              refine lv_iconst (v := 3) hx hb d_M_line_109 (by decide) ?_
              refine lv_aload_n hx hb d_M_line_110 rfl (lv_at hl 1 rfl) ?_
              refine va_get (D := (dC, dI)) (ci := 2) (v := .int (MS.lines st)) (C := RM) (T := TM) (N := 15) hx hb hts i_M hown hK hP 0 rfl rfl 1 (by decide) (hts _ m_377) (fun _ h9 => h9) rfl d_M_line_111 ?_
              refine lv_imul hx hb d_M_line_114 ?_
              refine lv_iconst (v := 1) hx hb d_M_line_115 (by decide) ?_
              refine lv_iadd hx hb d_M_line_116 ?_
              refine lv_iload_n hx hb d_M_line_117 rfl (lv_at hl 3 rfl) ?_
              obtain ⟨h16, hw⟩ := hw
              refine va_iast hx hb hK hP hD hS 1 0 rfl rfl h16 d_M_line_118 (fun H locs hP hD hS => ?_)
              have hP : va_P (dC, dI) vwCl [(h 0, .inr (2, [.int 0, .int (MS.lines st), .ref (h 1), .int (MS.cuts st), .ref (h 2), .ref (h 3), .int (MS.curves st), .ref (h 4), .ref (h 5), .long (MS.up st), .long (MS.down st), .long (MS.xu st), .long (MS.xd st), .int (MS.strip st), .int (MS.place st)])), (h 1, .inl (k 1, 18, .inl (upd (upd (MS.num st) (3 * (MS.lines st)).toNatClampNeg p0) ((3 * (MS.lines st)) + 1).toNatClampNeg p1))), (h 2, .inl (k 2, 24, .inr (.inl (MS.cu st)))), (h 3, .inl (k 3, 24, .inr (.inl (MS.cd st)))), (h 4, .inl (k 4, 6, .inr (.inl (MS.yu st)))), (h 5, .inl (k 5, 6, .inr (.inl (MS.yd st))))] H := hP
              have hD : va_D A [(h 0, .inr (2, [.int 0, .int (MS.lines st), .ref (h 1), .int (MS.cuts st), .ref (h 2), .ref (h 3), .int (MS.curves st), .ref (h 4), .ref (h 5), .long (MS.up st), .long (MS.down st), .long (MS.xu st), .long (MS.xd st), .int (MS.strip st), .int (MS.place st)])), (h 1, .inl (k 1, 18, .inl (upd (upd (MS.num st) (3 * (MS.lines st)).toNatClampNeg p0) ((3 * (MS.lines st)) + 1).toNatClampNeg p1))), (h 2, .inl (k 2, 24, .inr (.inl (MS.cu st)))), (h 3, .inl (k 3, 24, .inr (.inl (MS.cd st)))), (h 4, .inl (k 4, 6, .inr (.inl (MS.yu st)))), (h 5, .inl (k 5, 6, .inr (.inl (MS.yd st))))] := hD
              refine lv_aload_n hx hb d_M_line_119 rfl (lv_at hl 1 rfl) ?_
              refine va_get (D := (dC, dI)) (ci := 2) (v := .ref (h 1)) (C := RM) (T := TM) (N := 15) hx hb hts i_M hown hK hP 0 rfl rfl 2 (by decide) (hts _ m_378) (fun _ h9 => h9) rfl d_M_line_120 ?_
              refine lv_iconst (v := 3) hx hb d_M_line_123 (by decide) ?_
              refine lv_aload_n hx hb d_M_line_124 rfl (lv_at hl 1 rfl) ?_
              refine va_get (D := (dC, dI)) (ci := 2) (v := .int (MS.lines st)) (C := RM) (T := TM) (N := 15) hx hb hts i_M hown hK hP 0 rfl rfl 1 (by decide) (hts _ m_377) (fun _ h9 => h9) rfl d_M_line_125 ?_
              refine lv_imul hx hb d_M_line_128 ?_
              refine lv_iconst (v := 2) hx hb d_M_line_129 (by decide) ?_
              refine lv_iadd hx hb d_M_line_130 ?_
              refine lv_iload_n hx hb d_M_line_131 rfl (lv_at hl 4 rfl) ?_
              obtain ⟨h17, hw⟩ := hw
              refine va_iast hx hb hK hP hD hS 1 0 rfl rfl h17 d_M_line_132 (fun H locs hP hD hS => ?_)
              have hP : va_P (dC, dI) vwCl [(h 0, .inr (2, [.int 0, .int (MS.lines st), .ref (h 1), .int (MS.cuts st), .ref (h 2), .ref (h 3), .int (MS.curves st), .ref (h 4), .ref (h 5), .long (MS.up st), .long (MS.down st), .long (MS.xu st), .long (MS.xd st), .int (MS.strip st), .int (MS.place st)])), (h 1, .inl (k 1, 18, .inl (upd (upd (upd (MS.num st) (3 * (MS.lines st)).toNatClampNeg p0) ((3 * (MS.lines st)) + 1).toNatClampNeg p1) ((3 * (MS.lines st)) + 2).toNatClampNeg p2))), (h 2, .inl (k 2, 24, .inr (.inl (MS.cu st)))), (h 3, .inl (k 3, 24, .inr (.inl (MS.cd st)))), (h 4, .inl (k 4, 6, .inr (.inl (MS.yu st)))), (h 5, .inl (k 5, 6, .inr (.inl (MS.yd st))))] H := hP
              have hD : va_D A [(h 0, .inr (2, [.int 0, .int (MS.lines st), .ref (h 1), .int (MS.cuts st), .ref (h 2), .ref (h 3), .int (MS.curves st), .ref (h 4), .ref (h 5), .long (MS.up st), .long (MS.down st), .long (MS.xu st), .long (MS.xd st), .int (MS.strip st), .int (MS.place st)])), (h 1, .inl (k 1, 18, .inl (upd (upd (upd (MS.num st) (3 * (MS.lines st)).toNatClampNeg p0) ((3 * (MS.lines st)) + 1).toNatClampNeg p1) ((3 * (MS.lines st)) + 2).toNatClampNeg p2))), (h 2, .inl (k 2, 24, .inr (.inl (MS.cu st)))), (h 3, .inl (k 3, 24, .inr (.inl (MS.cd st)))), (h 4, .inl (k 4, 6, .inr (.inl (MS.yu st)))), (h 5, .inl (k 5, 6, .inr (.inl (MS.yd st))))] := hD
              refine lv_aload_n hx hb d_M_line_133 rfl (lv_at hl 1 rfl) ?_
              refine lv_dup hx hb d_M_line_134 rfl ?_
              refine va_get (D := (dC, dI)) (ci := 2) (v := .int (MS.lines st)) (C := RM) (T := TM) (N := 15) hx hb hts i_M hown hK hP 0 rfl rfl 1 (by decide) (hts _ m_377) (fun _ h9 => h9) rfl d_M_line_135 ?_
              refine lv_iconst (v := 1) hx hb d_M_line_138 (by decide) ?_
              refine lv_iadd hx hb d_M_line_139 ?_
              refine va_put (D := (dC, dI)) (ci := 2) (v := .int ((MS.lines st) + 1)) (ty := .int) (C := RM) (T := TM) (N := 15) hx hb hts i_M tyM tyM_ok nmM hown hK hP hD hS 0 rfl rfl 1 (by decide) (hts _ m_377) (fun _ h9 => h9) rfl (by decide +kernel) rfl rfl (Nat.le_of_ble_eq_true rfl) d_M_line_140 (fun H locs hP hD hS => ?_)
              have hP : va_P (dC, dI) vwCl [(h 0, .inr (2, [.int 0, .int ((MS.lines st) + 1), .ref (h 1), .int (MS.cuts st), .ref (h 2), .ref (h 3), .int (MS.curves st), .ref (h 4), .ref (h 5), .long (MS.up st), .long (MS.down st), .long (MS.xu st), .long (MS.xd st), .int (MS.strip st), .int (MS.place st)])), (h 1, .inl (k 1, 18, .inl (upd (upd (upd (MS.num st) (3 * (MS.lines st)).toNatClampNeg p0) ((3 * (MS.lines st)) + 1).toNatClampNeg p1) ((3 * (MS.lines st)) + 2).toNatClampNeg p2))), (h 2, .inl (k 2, 24, .inr (.inl (MS.cu st)))), (h 3, .inl (k 3, 24, .inr (.inl (MS.cd st)))), (h 4, .inl (k 4, 6, .inr (.inl (MS.yu st)))), (h 5, .inl (k 5, 6, .inr (.inl (MS.yd st))))] H := hP
              have hD : va_D A [(h 0, .inr (2, [.int 0, .int ((MS.lines st) + 1), .ref (h 1), .int (MS.cuts st), .ref (h 2), .ref (h 3), .int (MS.curves st), .ref (h 4), .ref (h 5), .long (MS.up st), .long (MS.down st), .long (MS.xu st), .long (MS.xd st), .int (MS.strip st), .int (MS.place st)])), (h 1, .inl (k 1, 18, .inl (upd (upd (upd (MS.num st) (3 * (MS.lines st)).toNatClampNeg p0) ((3 * (MS.lines st)) + 1).toNatClampNeg p1) ((3 * (MS.lines st)) + 2).toNatClampNeg p2))), (h 2, .inl (k 2, 24, .inr (.inl (MS.cu st)))), (h 3, .inl (k 3, 24, .inr (.inl (MS.cd st)))), (h 4, .inl (k 4, 6, .inr (.inl (MS.yu st)))), (h 5, .inl (k 5, 6, .inr (.inl (MS.yd st))))] := hD
              refine lv_aload_n hx hb d_M_line_143 rfl (lv_at hl 1 rfl) ?_
              have hP : va_P (dC, dI) vwCl (WM h k (0, ((MS.lines st) + 1), (upd (upd (upd (MS.num st) (3 * (MS.lines st)).toNatClampNeg p0) ((3 * (MS.lines st)) + 1).toNatClampNeg p1) ((3 * (MS.lines st)) + 2).toNatClampNeg p2), (MS.cuts st), (MS.cu st), (MS.cd st), (MS.curves st), (MS.yu st), (MS.yd st), (MS.up st), (MS.down st), (MS.xu st), (MS.xd st), (MS.strip st), (MS.place st))) _ := hP
              have hD : va_D A (WM h k (0, ((MS.lines st) + 1), (upd (upd (upd (MS.num st) (3 * (MS.lines st)).toNatClampNeg p0) ((3 * (MS.lines st)) + 1).toNatClampNeg p1) ((3 * (MS.lines st)) + 2).toNatClampNeg p2), (MS.cuts st), (MS.cu st), (MS.cd st), (MS.curves st), (MS.yu st), (MS.yd st), (MS.up st), (MS.down st), (MS.xu st), (MS.xd st), (MS.strip st), (MS.place st))) := hD
              have hFc := va_freeA hD hS hA
              refine va_callv (va_runV (As := []) (rest := []) ⟨hx, hb, hml, hown, hts⟩ (t_M_look l dC dI h k _ (0, ((MS.lines st) + 1), (upd (upd (upd (MS.num st) (3 * (MS.lines st)).toNatClampNeg p0) ((3 * (MS.lines st)) + 1).toNatClampNeg p1) ((3 * (MS.lines st)) + 2).toNatClampNeg p2), (MS.cuts st), (MS.cu st), (MS.cd st), (MS.curves st), (MS.yu st), (MS.yd st), (MS.up st), (MS.down st), (MS.xu st), (MS.xd st), (MS.strip st), (MS.place st))  hw) (cwV 0 hts (gV m_435 m_437 s_16 m_5 (cw_call m_438)) rfl rfl rfl (by decide +kernel) ⟨Nat.le_of_ble_eq_true rfl, Nat.le_of_ble_eq_true rfl⟩) ⟨pRw_bl, va_recv hK hP (ci := 2) (q0 := 0) rfl rfl, fun U hU hW => ⟨rfl, pRw_at hP hK hN hD hU hW⟩⟩ rfl rfl hl.1 rfl (lv_room (Nat.le_of_ble_eq_true rfl)) d_M_line_144 ⟨Nat.le_of_ble_eq_true rfl, Nat.le_of_ble_eq_true rfl⟩) hS (fun q _ h => hFc q h) hFc (fun u18 t H1 locs ht hvm hw hB hz1 hk1 hS => ?_)
              obtain ⟨hP1, hD1⟩ := hB
              rw [ht] at hP1
              have hP := hP1
              have hD := hD1.weaken (fun _ q _ h => hFc q.1 h)
              generalize H1 = H at hP hS ⊢
              have hP : va_P (dC, dI) vwCl (WM h k u18) H := hP
              have hD : va_D A (WM h k u18) := hD
              refine lv_aload_n hx hb d_M_line_147 rfl (lv_at hl 1 rfl) ?_
              refine va_get (D := (dC, dI)) (ci := 2) (v := .int (MS.lines u18)) (C := RM) (T := TM) (N := 15) hx hb hts i_M hown hK hP 0 rfl rfl 1 (by decide) (hts _ m_377) (fun _ h9 => h9) rfl d_M_line_148 ?_
              refine lv_iconst (v := 1) hx hb d_M_line_151 (by decide) ?_
              refine lv_isub hx hb d_M_line_152 ?_
              exact W.iret (v := ((MS.lines u18) - 1)) hx hb hr (fun t ht hW => ⟨⟨((MS.lines u18) - 1), u18, rfl, hw, by rw [ht]; exact hP, hD⟩, hS.F ht⟩) hS.2.2 d_M_line_153
            · skip
              have hw := hw.2 c14
              refine lv_iconst (v := 2) hx hb d_M_line_76 (by decide) ?_
              refine lv_goto (tgt := 81) hx hb d_M_line_77 (by decide) ?_
              refine va_put (D := (dC, dI)) (ci := 2) (v := .int 2) (ty := .int) (C := RM) (T := TM) (N := 15) hx hb hts i_M tyM tyM_ok nmM hown hK hP hD hS 0 rfl rfl 0 (by decide) (hts _ m_376) (fun _ h9 => h9) rfl (by decide +kernel) rfl rfl (Nat.le_of_ble_eq_true rfl) d_M_line_81 (fun H locs hP hD hS => ?_)
              have hP : va_P (dC, dI) vwCl [(h 0, .inr (2, [.int 2, .int (MS.lines st), .ref (h 1), .int (MS.cuts st), .ref (h 2), .ref (h 3), .int (MS.curves st), .ref (h 4), .ref (h 5), .long (MS.up st), .long (MS.down st), .long (MS.xu st), .long (MS.xd st), .int (MS.strip st), .int (MS.place st)])), (h 1, .inl (k 1, 18, .inl (MS.num st))), (h 2, .inl (k 2, 24, .inr (.inl (MS.cu st)))), (h 3, .inl (k 3, 24, .inr (.inl (MS.cd st)))), (h 4, .inl (k 4, 6, .inr (.inl (MS.yu st)))), (h 5, .inl (k 5, 6, .inr (.inl (MS.yd st))))] H := hP
              have hD : va_D A [(h 0, .inr (2, [.int 2, .int (MS.lines st), .ref (h 1), .int (MS.cuts st), .ref (h 2), .ref (h 3), .int (MS.curves st), .ref (h 4), .ref (h 5), .long (MS.up st), .long (MS.down st), .long (MS.xu st), .long (MS.xd st), .int (MS.strip st), .int (MS.place st)])), (h 1, .inl (k 1, 18, .inl (MS.num st))), (h 2, .inl (k 2, 24, .inr (.inl (MS.cu st)))), (h 3, .inl (k 3, 24, .inr (.inl (MS.cd st)))), (h 4, .inl (k 4, 6, .inr (.inl (MS.yu st)))), (h 5, .inl (k 5, 6, .inr (.inl (MS.yd st))))] := hD
              refine lv_aload_n hx hb d_M_line_84 rfl (lv_at hl 1 rfl) ?_
              refine va_get (D := (dC, dI)) (ci := 2) (v := .int 2) (C := RM) (T := TM) (N := 15) hx hb hts i_M hown hK hP 0 rfl rfl 0 (by decide) (hts _ m_376) (fun _ h9 => h9) rfl d_M_line_85 ?_
              refine lv_if_le (tgt := 93) hx hb d_M_line_88 (by decide) (fun cz => absurd cz (by decide)) (fun _ => ?_)
              refine lv_iconst (v := 0) hx hb d_M_line_91 (by decide) ?_
              have hP : va_P (dC, dI) vwCl (WM h k (2, (MS.lines st), (MS.num st), (MS.cuts st), (MS.cu st), (MS.cd st), (MS.curves st), (MS.yu st), (MS.yd st), (MS.up st), (MS.down st), (MS.xu st), (MS.xd st), (MS.strip st), (MS.place st))) _ := hP
              have hD : va_D A (WM h k (2, (MS.lines st), (MS.num st), (MS.cuts st), (MS.cu st), (MS.cd st), (MS.curves st), (MS.yu st), (MS.yd st), (MS.up st), (MS.down st), (MS.xu st), (MS.xd st), (MS.strip st), (MS.place st))) := hD
              exact W.iret (v := 0) hx hb hr (fun t ht hW => ⟨⟨0, (2, (MS.lines st), (MS.num st), (MS.cuts st), (MS.cu st), (MS.cd st), (MS.curves st), (MS.yu st), (MS.yd st), (MS.up st), (MS.down st), (MS.xu st), (MS.xd st), (MS.strip st), (MS.place st)), rfl, hw, by rw [ht]; exact hP, hD⟩, hS.F ht⟩) hS.2.2 d_M_line_92
def w_M_drop_47 (post : MS → Prop) : Nat → MS → Int32 → Prop
  | 0, _, _ => False
  | n + 1, st, v2 => ((3 * (MS.lines st)) ≤ v2 → (w_M_look st (fun u6 => (post u6)) )) ∧ (¬ (3 * (MS.lines st)) ≤ v2 → (vp_in (v2 + 3) 18 ∧ (vp_in v2 18 ∧ (w_M_drop_47 post n ((MS.code st), (MS.lines st), (upd (MS.num st) v2.toNatClampNeg ((MS.num st) (v2 + 3).toNatClampNeg)), (MS.cuts st), (MS.cu st), (MS.cd st), (MS.curves st), (MS.yu st), (MS.yd st), (MS.up st), (MS.down st), (MS.xu st), (MS.xd st), (MS.strip st), (MS.place st)) (v2 + 1)))))
set_option maxHeartbeats 4000000 in
set_option maxRecDepth 100000 in
theorem k_M_drop_47 {p : Program} {l : Launch} {e : Env} {s : State} {m : MethodId} {args : Array Value} {below : List Frame} {meth : Method} {c : Code} {dC : Nat → ClassId} {dI : Nat → Nat → Nat} {h : Nat → Nat} {k : Nat → ClassId} {A : Nat → Prop} {post : MS → Prop} (C0 : cxt p s m args meth c prog_4_method_7_code 3 RM none) (hK : va_K (dC, dI) vwCl (YM k) s) (hN : va_Nw nestW s) (hA : ∀ q, s.heap.size ≤ q → A q) : ∀ (n : Nat), ∀ (st : MS) (v2 : Int32) (H : Heap) (locs : List Loc), va_P (dC, dI) vwCl (WM h k st) H → va_D A (WM h k st) → va_S A s.heap H locs → ∀ ls, lv_has ls 3 [(0, .ref (h 0)), (2, .int v2)] → w_M_drop_47 post n st v2 → W p l e ({ frames := 2, cells := 0, slots := 0, locals := 53 } : Room) s m args below meth c H locs 0 0 (MQ below (va_Qv post (fun u t => va_P (dC, dI) vwCl (WM h k u) t.heap ∧ va_D A (WM h k u)) A) args s 0 0 A) (F0 m 47 ls []) := by
  obtain ⟨hx, hb, hr, hml, hown, hts, hlocks⟩ := id C0
  intro n
  induction n with
  | zero =>
    intro st v2 H locs hP hD hS ls hl hw
    exact False.elim hw
  | succ n ih =>
    intro st v2 H locs hP hD hS ls hl hw
    rw [w_M_drop_47] at hw
    refine lv_iload_n hx hb d_M_drop_47 rfl (lv_at hl 1 rfl) ?_
    refine lv_iconst (v := 3) hx hb d_M_drop_48 (by decide) ?_
    refine lv_aload_n hx hb d_M_drop_49 rfl (lv_at hl 0 rfl) ?_
    refine va_get (D := (dC, dI)) (ci := 2) (v := .int (MS.lines st)) (C := RM) (T := TM) (N := 15) hx hb hts i_M hown hK hP 0 rfl rfl 1 (by decide) (hts _ m_377) (fun _ h9 => h9) rfl d_M_drop_50 ?_
    refine lv_imul hx hb d_M_drop_53 ?_
    refine lv_icmp_ge (tgt := 77) hx hb d_M_drop_54 (by decide) (fun c5 => ?_) (fun c5 => ?_)
    · skip
      have hw := hw.1 c5
      refine lv_aload_n hx hb d_M_drop_77 rfl (lv_at hl 0 rfl) ?_
      have hFc := va_freeA hD hS hA
      refine va_callv (va_runV (As := []) (rest := []) ⟨hx, hb, hml, hown, hts⟩ (t_M_look l dC dI h k _ st  hw) (cwV 0 hts (gV m_435 m_437 s_16 m_5 (cw_call m_438)) rfl rfl rfl (by decide +kernel) ⟨Nat.le_of_ble_eq_true rfl, Nat.le_of_ble_eq_true rfl⟩) ⟨pRw_bl, va_recv hK hP (ci := 2) (q0 := 0) rfl rfl, fun U hU hW => ⟨rfl, pRw_at hP hK hN hD hU hW⟩⟩ rfl rfl hl.1 rfl (lv_room (Nat.le_of_ble_eq_true rfl)) d_M_drop_78 ⟨Nat.le_of_ble_eq_true rfl, Nat.le_of_ble_eq_true rfl⟩) hS (fun q _ h => hFc q h) hFc (fun u6 t H1 locs ht hvm hw hB hz1 hk1 hS => ?_)
      obtain ⟨hP1, hD1⟩ := hB
      rw [ht] at hP1
      have hP := hP1
      have hD := hD1.weaken (fun _ q _ h => hFc q.1 h)
      generalize H1 = H at hP hS ⊢
      have hP : va_P (dC, dI) vwCl (WM h k u6) H := hP
      have hD : va_D A (WM h k u6) := hD
      exact W.vret hx hb hr (fun t ht hW => ⟨⟨u6, rfl, hw, by rw [ht]; exact hP, hD⟩, hS.F ht⟩) hS.2.2 d_M_drop_81
    · skip
      have hw := hw.2 c5
      refine lv_aload_n hx hb d_M_drop_57 rfl (lv_at hl 0 rfl) ?_
      refine va_get (D := (dC, dI)) (ci := 2) (v := .ref (h 1)) (C := RM) (T := TM) (N := 15) hx hb hts i_M hown hK hP 0 rfl rfl 2 (by decide) (hts _ m_378) (fun _ h9 => h9) rfl d_M_drop_58 ?_
      refine lv_iload_n hx hb d_M_drop_61 rfl (lv_at hl 1 rfl) ?_
      refine lv_aload_n hx hb d_M_drop_62 rfl (lv_at hl 0 rfl) ?_
      refine va_get (D := (dC, dI)) (ci := 2) (v := .ref (h 1)) (C := RM) (T := TM) (N := 15) hx hb hts i_M hown hK hP 0 rfl rfl 2 (by decide) (hts _ m_378) (fun _ h9 => h9) rfl d_M_drop_63 ?_
      refine lv_iload_n hx hb d_M_drop_66 rfl (lv_at hl 1 rfl) ?_
      refine lv_iconst (v := 3) hx hb d_M_drop_67 (by decide) ?_
      refine lv_iadd hx hb d_M_drop_68 ?_
      obtain ⟨h7, hw⟩ := hw
      refine va_iald hx hb hK hP 1 0 rfl rfl h7 d_M_drop_69 ?_
      obtain ⟨h8, hw⟩ := hw
      refine va_iast hx hb hK hP hD hS 1 0 rfl rfl h8 d_M_drop_70 (fun H locs hP hD hS => ?_)
      have hP : va_P (dC, dI) vwCl [(h 0, .inr (2, [.int (MS.code st), .int (MS.lines st), .ref (h 1), .int (MS.cuts st), .ref (h 2), .ref (h 3), .int (MS.curves st), .ref (h 4), .ref (h 5), .long (MS.up st), .long (MS.down st), .long (MS.xu st), .long (MS.xd st), .int (MS.strip st), .int (MS.place st)])), (h 1, .inl (k 1, 18, .inl (upd (MS.num st) v2.toNatClampNeg ((MS.num st) (v2 + 3).toNatClampNeg)))), (h 2, .inl (k 2, 24, .inr (.inl (MS.cu st)))), (h 3, .inl (k 3, 24, .inr (.inl (MS.cd st)))), (h 4, .inl (k 4, 6, .inr (.inl (MS.yu st)))), (h 5, .inl (k 5, 6, .inr (.inl (MS.yd st))))] H := hP
      have hD : va_D A [(h 0, .inr (2, [.int (MS.code st), .int (MS.lines st), .ref (h 1), .int (MS.cuts st), .ref (h 2), .ref (h 3), .int (MS.curves st), .ref (h 4), .ref (h 5), .long (MS.up st), .long (MS.down st), .long (MS.xu st), .long (MS.xd st), .int (MS.strip st), .int (MS.place st)])), (h 1, .inl (k 1, 18, .inl (upd (MS.num st) v2.toNatClampNeg ((MS.num st) (v2 + 3).toNatClampNeg)))), (h 2, .inl (k 2, 24, .inr (.inl (MS.cu st)))), (h 3, .inl (k 3, 24, .inr (.inl (MS.cd st)))), (h 4, .inl (k 4, 6, .inr (.inl (MS.yu st)))), (h 5, .inl (k 5, 6, .inr (.inl (MS.yd st))))] := hD
      refine lv_iinc (v := (v2 + 1)) (lv' := [(2, .int (v2 + 1)), (0, .ref (h 0))]) hx hb d_M_drop_71 hl (k := 1) rfl rfl (by decide) rfl (fun ls hl => ?_)
      refine lv_goto (tgt := 47) hx hb d_M_drop_74 (by decide) ?_
      have hP : va_P (dC, dI) vwCl (WM h k ((MS.code st), (MS.lines st), (upd (MS.num st) v2.toNatClampNeg ((MS.num st) (v2 + 3).toNatClampNeg)), (MS.cuts st), (MS.cu st), (MS.cd st), (MS.curves st), (MS.yu st), (MS.yd st), (MS.up st), (MS.down st), (MS.xu st), (MS.xd st), (MS.strip st), (MS.place st))) _ := hP
      have hD : va_D A (WM h k ((MS.code st), (MS.lines st), (upd (MS.num st) v2.toNatClampNeg ((MS.num st) (v2 + 3).toNatClampNeg)), (MS.cuts st), (MS.cu st), (MS.cd st), (MS.curves st), (MS.yu st), (MS.yd st), (MS.up st), (MS.down st), (MS.xu st), (MS.xd st), (MS.strip st), (MS.place st))) := hD
      exact ih ((MS.code st), (MS.lines st), (upd (MS.num st) v2.toNatClampNeg ((MS.num st) (v2 + 3).toNatClampNeg)), (MS.cuts st), (MS.cu st), (MS.cd st), (MS.curves st), (MS.yu st), (MS.yd st), (MS.up st), (MS.down st), (MS.xu st), (MS.xd st), (MS.strip st), (MS.place st)) (v2 + 1) _ _ hP hD hS ls (lv_sub hl [1, 0] rfl) hw
def w_M_drop (st : MS) (post : MS → Prop) (p0 : Int32) : Prop := w_M_in (fun r1 => ((r1 = 0 → (post (1, (MS.lines st), (MS.num st), (MS.cuts st), (MS.cu st), (MS.cd st), (MS.curves st), (MS.yu st), (MS.yd st), (MS.up st), (MS.down st), (MS.xu st), (MS.xd st), (MS.strip st), (MS.place st)))) ∧ (¬ r1 = 0 → (∀ y3 : Int32, y3 = (3 * p0) → (∃ z, w_M_drop_47 post z (0, ((MS.lines st) - 1), (MS.num st), (MS.cuts st), (MS.cu st), (MS.cd st), (MS.curves st), (MS.yu st), (MS.yd st), (MS.up st), (MS.down st), (MS.xu st), (MS.xd st), (MS.strip st), (MS.place st)) y3))))) p0.toInt64 (0 : Int64) (((MS.lines st) - 1).toInt64)
set_option maxHeartbeats 4000000 in
set_option maxRecDepth 100000 in
theorem t_M_drop (l : Launch) (dC : Nat → ClassId) (dI : Nat → Nat → Nat) (h : Nat → Nat) (k : Nat → ClassId) (sz : Nat) (st : MS) (p0 : Int32) {post : MS → Prop} (hw : w_M_drop st post p0) : Met l y_M_drop (Cond.code y_M_drop prog_4_method_7_code 3 none :: cw) ({ frames := 2, cells := 0, slots := 0, locals := 53 } : Room) (va_Pc [.ref (h 0), .int p0] (pRw (dC, dI) (WM h k st) (YM k) sz)) (va_Qv post (fun u t => va_P (dC, dI) vwCl (WM h k u) t.heap ∧ va_D (va_A (WM h k st) sz) (WM h k u)) (va_A (WM h k st) sz)) 0 0 (va_A (WM h k st) sz) := by
  refine Met.ofW (cc := prog_4_method_7_code) (maxL := 3) (ret := none) (by decide) rfl ?_
  intro p e s m args below meth c s₁ B hml hv
  obtain ⟨rfl, hsz, hP, hK, hN, hD0⟩ := hv
  have hx := B.exec
  have hb := B.bytes
  have hr := B.returns
  have hts : ∀ w ∈ cw, w.before _ s = true := fun w h => atoms_spec (ws := (Cond.code y_M_drop prog_4_method_7_code 3 none :: cw)) B.pre w (List.mem_cons_of_mem _ h)
  have hown : s.vm.findClass RM = some m.cls := findClass_of_methodNamed B.named
  have hlocks := B.notSynchronized
  have C0 : cxt p s m _ meth c prog_4_method_7_code 3 RM none := ⟨hx, hb, hr, hml, hown, hts, hlocks⟩
  subst hsz
  have hD := hD0.self (sz := s.heap.size)
  generalize hAe : va_A (WM h k st) s.heap.size = A at hD ⊢
  have hA : ∀ q : Nat, s.heap.size ≤ q → A q := fun q h => by rw [← hAe]; exact Or.inr h
  have hS : va_S A s.heap s.heap [] := va_S.rf
  have hl := lv_entry ([.ref (h 0), .int p0]) (n := 3) (Nat.le_of_ble_eq_true rfl)
  rw [lg_entry_eq]
  generalize (lg_sl ([.ref (h 0), .int p0]) ++ List.replicate (3 - (lg_sl ([.ref (h 0), .int p0])).length) Slot.unset).toArray = ls at hl ⊢
  have hl : lv_has ls 3 [(0, .ref (h 0)), (1, .int p0)] := hl
  unfold w_M_drop at hw
  refine lv_aload_n hx hb d_M_drop_0 rfl (lv_at hl 0 rfl) ?_
  refine lv_iload_n hx hb d_M_drop_1 rfl (lv_at hl 1 rfl) ?_
  refine lv_i2l (v := p0.toInt64) hx hb d_M_drop_2 rfl ?_
  refine lv_lconst (v := 0) hx hb d_M_drop_3 (by decide) ?_
  refine lv_aload_n hx hb d_M_drop_4 rfl (lv_at hl 0 rfl) ?_
  refine va_get (D := (dC, dI)) (ci := 2) (v := .int (MS.lines st)) (C := RM) (T := TM) (N := 15) hx hb hts i_M hown hK hP 0 rfl rfl 1 (by decide) (hts _ m_377) (fun _ h9 => h9) rfl d_M_drop_5 ?_
  refine lv_iconst (v := 1) hx hb d_M_drop_8 (by decide) ?_
  refine lv_isub hx hb d_M_drop_9 ?_
  refine lv_i2l (v := ((MS.lines st) - 1).toInt64) hx hb d_M_drop_10 rfl ?_
  refine vp_callSi (va_Run.run (va_runS (As := [.long p0.toInt64, .long 0, .long (((MS.lines st) - 1).toInt64)]) (rest := [.ref (h 0)]) ⟨hx, hb, hml, hown, hts⟩ (t_M_in l p0.toInt64 (0 : Int64) (((MS.lines st) - 1).toInt64) hw) (va_cwS 3 hts (gS m_432 m_433 m_5 (cw_call m_434)) rfl rfl rfl (by decide +kernel) ⟨Nat.le_of_ble_eq_true rfl, Nat.le_of_ble_eq_true rfl⟩) ⟨pSt_bl, fun U hU hW => ⟨rfl, trivial⟩⟩ rfl rfl hl.1 rfl (lv_room (Nat.le_of_ble_eq_true rfl)) d_M_drop_11 ⟨Nat.le_of_ble_eq_true rfl, Nat.le_of_ble_eq_true rfl⟩)) (fun r1 hw => ?_)
  refine lv_if_eq (tgt := 21) hx hb d_M_drop_14 (by decide) (fun c2 => ?_) (fun c2 => ?_)
  · skip
    have hw := hw.1 c2
    refine lv_iconst (v := 1) hx hb d_M_drop_21 (by decide) ?_
    refine va_put (D := (dC, dI)) (ci := 2) (v := .int 1) (ty := .int) (C := RM) (T := TM) (N := 15) hx hb hts i_M tyM tyM_ok nmM hown hK hP hD hS 0 rfl rfl 0 (by decide) (hts _ m_376) (fun _ h9 => h9) rfl (by decide +kernel) rfl rfl (Nat.le_of_ble_eq_true rfl) d_M_drop_22 (fun H locs hP hD hS => ?_)
    have hP : va_P (dC, dI) vwCl [(h 0, .inr (2, [.int 1, .int (MS.lines st), .ref (h 1), .int (MS.cuts st), .ref (h 2), .ref (h 3), .int (MS.curves st), .ref (h 4), .ref (h 5), .long (MS.up st), .long (MS.down st), .long (MS.xu st), .long (MS.xd st), .int (MS.strip st), .int (MS.place st)])), (h 1, .inl (k 1, 18, .inl (MS.num st))), (h 2, .inl (k 2, 24, .inr (.inl (MS.cu st)))), (h 3, .inl (k 3, 24, .inr (.inl (MS.cd st)))), (h 4, .inl (k 4, 6, .inr (.inl (MS.yu st)))), (h 5, .inl (k 5, 6, .inr (.inl (MS.yd st))))] H := hP
    have hD : va_D A [(h 0, .inr (2, [.int 1, .int (MS.lines st), .ref (h 1), .int (MS.cuts st), .ref (h 2), .ref (h 3), .int (MS.curves st), .ref (h 4), .ref (h 5), .long (MS.up st), .long (MS.down st), .long (MS.xu st), .long (MS.xd st), .int (MS.strip st), .int (MS.place st)])), (h 1, .inl (k 1, 18, .inl (MS.num st))), (h 2, .inl (k 2, 24, .inr (.inl (MS.cu st)))), (h 3, .inl (k 3, 24, .inr (.inl (MS.cd st)))), (h 4, .inl (k 4, 6, .inr (.inl (MS.yu st)))), (h 5, .inl (k 5, 6, .inr (.inl (MS.yd st))))] := hD
    refine lv_aload_n hx hb d_M_drop_25 rfl (lv_at hl 0 rfl) ?_
    refine va_get (D := (dC, dI)) (ci := 2) (v := .int 1) (C := RM) (T := TM) (N := 15) hx hb hts i_M hown hK hP 0 rfl rfl 0 (by decide) (hts _ m_376) (fun _ h9 => h9) rfl d_M_drop_26 ?_
    refine lv_if_le (tgt := 33) hx hb d_M_drop_29 (by decide) (fun cz => absurd cz (by decide)) (fun _ => ?_)
    have hP : va_P (dC, dI) vwCl (WM h k (1, (MS.lines st), (MS.num st), (MS.cuts st), (MS.cu st), (MS.cd st), (MS.curves st), (MS.yu st), (MS.yd st), (MS.up st), (MS.down st), (MS.xu st), (MS.xd st), (MS.strip st), (MS.place st))) _ := hP
    have hD : va_D A (WM h k (1, (MS.lines st), (MS.num st), (MS.cuts st), (MS.cu st), (MS.cd st), (MS.curves st), (MS.yu st), (MS.yd st), (MS.up st), (MS.down st), (MS.xu st), (MS.xd st), (MS.strip st), (MS.place st))) := hD
    exact W.vret hx hb hr (fun t ht hW => ⟨⟨(1, (MS.lines st), (MS.num st), (MS.cuts st), (MS.cu st), (MS.cd st), (MS.curves st), (MS.yu st), (MS.yd st), (MS.up st), (MS.down st), (MS.xu st), (MS.xd st), (MS.strip st), (MS.place st)), rfl, hw, by rw [ht]; exact hP, hD⟩, hS.F ht⟩) hS.2.2 d_M_drop_32
  · skip
    have hw := hw.2 c2
    refine lv_iconst (v := 0) hx hb d_M_drop_17 (by decide) ?_
    refine lv_goto (tgt := 22) hx hb d_M_drop_18 (by decide) ?_
    refine va_put (D := (dC, dI)) (ci := 2) (v := .int 0) (ty := .int) (C := RM) (T := TM) (N := 15) hx hb hts i_M tyM tyM_ok nmM hown hK hP hD hS 0 rfl rfl 0 (by decide) (hts _ m_376) (fun _ h9 => h9) rfl (by decide +kernel) rfl rfl (Nat.le_of_ble_eq_true rfl) d_M_drop_22 (fun H locs hP hD hS => ?_)
    have hP : va_P (dC, dI) vwCl [(h 0, .inr (2, [.int 0, .int (MS.lines st), .ref (h 1), .int (MS.cuts st), .ref (h 2), .ref (h 3), .int (MS.curves st), .ref (h 4), .ref (h 5), .long (MS.up st), .long (MS.down st), .long (MS.xu st), .long (MS.xd st), .int (MS.strip st), .int (MS.place st)])), (h 1, .inl (k 1, 18, .inl (MS.num st))), (h 2, .inl (k 2, 24, .inr (.inl (MS.cu st)))), (h 3, .inl (k 3, 24, .inr (.inl (MS.cd st)))), (h 4, .inl (k 4, 6, .inr (.inl (MS.yu st)))), (h 5, .inl (k 5, 6, .inr (.inl (MS.yd st))))] H := hP
    have hD : va_D A [(h 0, .inr (2, [.int 0, .int (MS.lines st), .ref (h 1), .int (MS.cuts st), .ref (h 2), .ref (h 3), .int (MS.curves st), .ref (h 4), .ref (h 5), .long (MS.up st), .long (MS.down st), .long (MS.xu st), .long (MS.xd st), .int (MS.strip st), .int (MS.place st)])), (h 1, .inl (k 1, 18, .inl (MS.num st))), (h 2, .inl (k 2, 24, .inr (.inl (MS.cu st)))), (h 3, .inl (k 3, 24, .inr (.inl (MS.cd st)))), (h 4, .inl (k 4, 6, .inr (.inl (MS.yu st)))), (h 5, .inl (k 5, 6, .inr (.inl (MS.yd st))))] := hD
    refine lv_aload_n hx hb d_M_drop_25 rfl (lv_at hl 0 rfl) ?_
    refine va_get (D := (dC, dI)) (ci := 2) (v := .int 0) (C := RM) (T := TM) (N := 15) hx hb hts i_M hown hK hP 0 rfl rfl 0 (by decide) (hts _ m_376) (fun _ h9 => h9) rfl d_M_drop_26 ?_
    refine lv_if_le (tgt := 33) hx hb d_M_drop_29 (by decide) (fun _ => ?_) (fun cz => absurd (by decide) cz)
    refine lv_aload_n hx hb d_M_drop_33 rfl (lv_at hl 0 rfl) ?_
    refine lv_dup hx hb d_M_drop_34 rfl ?_
    refine va_get (D := (dC, dI)) (ci := 2) (v := .int (MS.lines st)) (C := RM) (T := TM) (N := 15) hx hb hts i_M hown hK hP 0 rfl rfl 1 (by decide) (hts _ m_377) (fun _ h9 => h9) rfl d_M_drop_35 ?_
    refine lv_iconst (v := 1) hx hb d_M_drop_38 (by decide) ?_
    refine lv_isub hx hb d_M_drop_39 ?_
    refine va_put (D := (dC, dI)) (ci := 2) (v := .int ((MS.lines st) - 1)) (ty := .int) (C := RM) (T := TM) (N := 15) hx hb hts i_M tyM tyM_ok nmM hown hK hP hD hS 0 rfl rfl 1 (by decide) (hts _ m_377) (fun _ h9 => h9) rfl (by decide +kernel) rfl rfl (Nat.le_of_ble_eq_true rfl) d_M_drop_40 (fun H locs hP hD hS => ?_)
    have hP : va_P (dC, dI) vwCl [(h 0, .inr (2, [.int 0, .int ((MS.lines st) - 1), .ref (h 1), .int (MS.cuts st), .ref (h 2), .ref (h 3), .int (MS.curves st), .ref (h 4), .ref (h 5), .long (MS.up st), .long (MS.down st), .long (MS.xu st), .long (MS.xd st), .int (MS.strip st), .int (MS.place st)])), (h 1, .inl (k 1, 18, .inl (MS.num st))), (h 2, .inl (k 2, 24, .inr (.inl (MS.cu st)))), (h 3, .inl (k 3, 24, .inr (.inl (MS.cd st)))), (h 4, .inl (k 4, 6, .inr (.inl (MS.yu st)))), (h 5, .inl (k 5, 6, .inr (.inl (MS.yd st))))] H := hP
    have hD : va_D A [(h 0, .inr (2, [.int 0, .int ((MS.lines st) - 1), .ref (h 1), .int (MS.cuts st), .ref (h 2), .ref (h 3), .int (MS.curves st), .ref (h 4), .ref (h 5), .long (MS.up st), .long (MS.down st), .long (MS.xu st), .long (MS.xd st), .int (MS.strip st), .int (MS.place st)])), (h 1, .inl (k 1, 18, .inl (MS.num st))), (h 2, .inl (k 2, 24, .inr (.inl (MS.cu st)))), (h 3, .inl (k 3, 24, .inr (.inl (MS.cd st)))), (h 4, .inl (k 4, 6, .inr (.inl (MS.yu st)))), (h 5, .inl (k 5, 6, .inr (.inl (MS.yd st))))] := hD
    refine lv_iconst (v := 3) hx hb d_M_drop_43 (by decide) ?_
    refine lv_iload_n hx hb d_M_drop_44 rfl (lv_at hl 1 rfl) ?_
    refine lv_imul hx hb d_M_drop_45 ?_
    refine lv_topi (fun y3 ey3 => ?_)
    have hw := hw y3 ey3
    refine lv_istore_n (lv' := [(2, .int y3), (0, .ref (h 0)), (1, .int p0)]) hx hb d_M_drop_46 rfl hl (by decide) rfl (fun ls hl => ?_)
    have hP : va_P (dC, dI) vwCl (WM h k (0, ((MS.lines st) - 1), (MS.num st), (MS.cuts st), (MS.cu st), (MS.cd st), (MS.curves st), (MS.yu st), (MS.yd st), (MS.up st), (MS.down st), (MS.xu st), (MS.xd st), (MS.strip st), (MS.place st))) _ := hP
    have hD : va_D A (WM h k (0, ((MS.lines st) - 1), (MS.num st), (MS.cuts st), (MS.cu st), (MS.cd st), (MS.curves st), (MS.yu st), (MS.yd st), (MS.up st), (MS.down st), (MS.xu st), (MS.xd st), (MS.strip st), (MS.place st))) := hD
    obtain ⟨n4, hw⟩ := hw
    exact k_M_drop_47 C0 hK hN hA n4 (0, ((MS.lines st) - 1), (MS.num st), (MS.cuts st), (MS.cu st), (MS.cd st), (MS.curves st), (MS.yu st), (MS.yd st), (MS.up st), (MS.down st), (MS.xu st), (MS.xd st), (MS.strip st), (MS.place st)) y3 _ _ hP hD hS ls (lv_sub hl [1, 0] rfl) hw
def w_M_lines (st : MS) (post : Int32 → MS → Prop) : Prop := post (MS.lines st) (0, (MS.lines st), (MS.num st), (MS.cuts st), (MS.cu st), (MS.cd st), (MS.curves st), (MS.yu st), (MS.yd st), (MS.up st), (MS.down st), (MS.xu st), (MS.xd st), (MS.strip st), (MS.place st))
set_option maxHeartbeats 4000000 in
set_option maxRecDepth 100000 in
theorem t_M_lines (l : Launch) (dC : Nat → ClassId) (dI : Nat → Nat → Nat) (h : Nat → Nat) (k : Nat → ClassId) (sz : Nat) (st : MS) {post : Int32 → MS → Prop} (hw : w_M_lines st post) : Met l y_M_lines (Cond.code y_M_lines prog_4_method_8_code 1 (some .int) :: cw) ({ frames := 0, cells := 0, slots := 0, locals := 0 } : Room) (va_Pc [.ref (h 0)] (pRw (dC, dI) (WM h k st) (YM k) sz)) (va_Qi post (fun u t => va_P (dC, dI) vwCl (WM h k u) t.heap ∧ va_D (va_A (WM h k st) sz) (WM h k u)) (va_A (WM h k st) sz)) 0 0 (va_A (WM h k st) sz) := by
  refine Met.ofW (cc := prog_4_method_8_code) (maxL := 1) (ret := (some .int)) (by decide) rfl ?_
  intro p e s m args below meth c s₁ B hml hv
  obtain ⟨rfl, hsz, hP, hK, hN, hD0⟩ := hv
  have hx := B.exec
  have hb := B.bytes
  have hr := B.returns
  have hts : ∀ w ∈ cw, w.before _ s = true := fun w h => atoms_spec (ws := (Cond.code y_M_lines prog_4_method_8_code 1 (some .int) :: cw)) B.pre w (List.mem_cons_of_mem _ h)
  have hown : s.vm.findClass RM = some m.cls := findClass_of_methodNamed B.named
  have hlocks := B.notSynchronized
  have C0 : cxt p s m _ meth c prog_4_method_8_code 1 RM (some .int) := ⟨hx, hb, hr, hml, hown, hts, hlocks⟩
  subst hsz
  have hD := hD0.self (sz := s.heap.size)
  generalize hAe : va_A (WM h k st) s.heap.size = A at hD ⊢
  have hA : ∀ q : Nat, s.heap.size ≤ q → A q := fun q h => by rw [← hAe]; exact Or.inr h
  have hS : va_S A s.heap s.heap [] := va_S.rf
  have hl := lv_entry ([.ref (h 0)]) (n := 1) (Nat.le_of_ble_eq_true rfl)
  rw [lg_entry_eq]
  generalize (lg_sl ([.ref (h 0)]) ++ List.replicate (1 - (lg_sl ([.ref (h 0)])).length) Slot.unset).toArray = ls at hl ⊢
  have hl : lv_has ls 1 [(0, .ref (h 0))] := hl
  unfold w_M_lines at hw
  refine lv_aload_n hx hb d_M_lines_0 rfl (lv_at hl 0 rfl) ?_
  refine lv_iconst (v := 0) hx hb d_M_lines_1 (by decide) ?_
  refine va_put (D := (dC, dI)) (ci := 2) (v := .int 0) (ty := .int) (C := RM) (T := TM) (N := 15) hx hb hts i_M tyM tyM_ok nmM hown hK hP hD hS 0 rfl rfl 0 (by decide) (hts _ m_376) (fun _ h9 => h9) rfl (by decide +kernel) rfl rfl (Nat.le_of_ble_eq_true rfl) d_M_lines_2 (fun H locs hP hD hS => ?_)
  have hP : va_P (dC, dI) vwCl [(h 0, .inr (2, [.int 0, .int (MS.lines st), .ref (h 1), .int (MS.cuts st), .ref (h 2), .ref (h 3), .int (MS.curves st), .ref (h 4), .ref (h 5), .long (MS.up st), .long (MS.down st), .long (MS.xu st), .long (MS.xd st), .int (MS.strip st), .int (MS.place st)])), (h 1, .inl (k 1, 18, .inl (MS.num st))), (h 2, .inl (k 2, 24, .inr (.inl (MS.cu st)))), (h 3, .inl (k 3, 24, .inr (.inl (MS.cd st)))), (h 4, .inl (k 4, 6, .inr (.inl (MS.yu st)))), (h 5, .inl (k 5, 6, .inr (.inl (MS.yd st))))] H := hP
  have hD : va_D A [(h 0, .inr (2, [.int 0, .int (MS.lines st), .ref (h 1), .int (MS.cuts st), .ref (h 2), .ref (h 3), .int (MS.curves st), .ref (h 4), .ref (h 5), .long (MS.up st), .long (MS.down st), .long (MS.xu st), .long (MS.xd st), .int (MS.strip st), .int (MS.place st)])), (h 1, .inl (k 1, 18, .inl (MS.num st))), (h 2, .inl (k 2, 24, .inr (.inl (MS.cu st)))), (h 3, .inl (k 3, 24, .inr (.inl (MS.cd st)))), (h 4, .inl (k 4, 6, .inr (.inl (MS.yu st)))), (h 5, .inl (k 5, 6, .inr (.inl (MS.yd st))))] := hD
  refine lv_aload_n hx hb d_M_lines_5 rfl (lv_at hl 0 rfl) ?_
  refine va_get (D := (dC, dI)) (ci := 2) (v := .int (MS.lines st)) (C := RM) (T := TM) (N := 15) hx hb hts i_M hown hK hP 0 rfl rfl 1 (by decide) (hts _ m_377) (fun _ h9 => h9) rfl d_M_lines_6 ?_
  have hP : va_P (dC, dI) vwCl (WM h k (0, (MS.lines st), (MS.num st), (MS.cuts st), (MS.cu st), (MS.cd st), (MS.curves st), (MS.yu st), (MS.yd st), (MS.up st), (MS.down st), (MS.xu st), (MS.xd st), (MS.strip st), (MS.place st))) _ := hP
  have hD : va_D A (WM h k (0, (MS.lines st), (MS.num st), (MS.cuts st), (MS.cu st), (MS.cd st), (MS.curves st), (MS.yu st), (MS.yd st), (MS.up st), (MS.down st), (MS.xu st), (MS.xd st), (MS.strip st), (MS.place st))) := hD
  exact W.iret (v := (MS.lines st)) hx hb hr (fun t ht hW => ⟨⟨(MS.lines st), (0, (MS.lines st), (MS.num st), (MS.cuts st), (MS.cu st), (MS.cd st), (MS.curves st), (MS.yu st), (MS.yd st), (MS.up st), (MS.down st), (MS.xu st), (MS.xd st), (MS.strip st), (MS.place st)), rfl, hw, by rw [ht]; exact hP, hD⟩, hS.F ht⟩) hS.2.2 d_M_lines_9
def w_M_cuts (st : MS) (post : Int32 → MS → Prop) : Prop := post (MS.cuts st) (0, (MS.lines st), (MS.num st), (MS.cuts st), (MS.cu st), (MS.cd st), (MS.curves st), (MS.yu st), (MS.yd st), (MS.up st), (MS.down st), (MS.xu st), (MS.xd st), (MS.strip st), (MS.place st))
set_option maxHeartbeats 4000000 in
set_option maxRecDepth 100000 in
theorem t_M_cuts (l : Launch) (dC : Nat → ClassId) (dI : Nat → Nat → Nat) (h : Nat → Nat) (k : Nat → ClassId) (sz : Nat) (st : MS) {post : Int32 → MS → Prop} (hw : w_M_cuts st post) : Met l y_M_cuts (Cond.code y_M_cuts prog_4_method_11_code 1 (some .int) :: cw) ({ frames := 0, cells := 0, slots := 0, locals := 0 } : Room) (va_Pc [.ref (h 0)] (pRw (dC, dI) (WM h k st) (YM k) sz)) (va_Qi post (fun u t => va_P (dC, dI) vwCl (WM h k u) t.heap ∧ va_D (va_A (WM h k st) sz) (WM h k u)) (va_A (WM h k st) sz)) 0 0 (va_A (WM h k st) sz) := by
  refine Met.ofW (cc := prog_4_method_11_code) (maxL := 1) (ret := (some .int)) (by decide) rfl ?_
  intro p e s m args below meth c s₁ B hml hv
  obtain ⟨rfl, hsz, hP, hK, hN, hD0⟩ := hv
  have hx := B.exec
  have hb := B.bytes
  have hr := B.returns
  have hts : ∀ w ∈ cw, w.before _ s = true := fun w h => atoms_spec (ws := (Cond.code y_M_cuts prog_4_method_11_code 1 (some .int) :: cw)) B.pre w (List.mem_cons_of_mem _ h)
  have hown : s.vm.findClass RM = some m.cls := findClass_of_methodNamed B.named
  have hlocks := B.notSynchronized
  have C0 : cxt p s m _ meth c prog_4_method_11_code 1 RM (some .int) := ⟨hx, hb, hr, hml, hown, hts, hlocks⟩
  subst hsz
  have hD := hD0.self (sz := s.heap.size)
  generalize hAe : va_A (WM h k st) s.heap.size = A at hD ⊢
  have hA : ∀ q : Nat, s.heap.size ≤ q → A q := fun q h => by rw [← hAe]; exact Or.inr h
  have hS : va_S A s.heap s.heap [] := va_S.rf
  have hl := lv_entry ([.ref (h 0)]) (n := 1) (Nat.le_of_ble_eq_true rfl)
  rw [lg_entry_eq]
  generalize (lg_sl ([.ref (h 0)]) ++ List.replicate (1 - (lg_sl ([.ref (h 0)])).length) Slot.unset).toArray = ls at hl ⊢
  have hl : lv_has ls 1 [(0, .ref (h 0))] := hl
  unfold w_M_cuts at hw
  refine lv_aload_n hx hb d_M_cuts_0 rfl (lv_at hl 0 rfl) ?_
  refine lv_iconst (v := 0) hx hb d_M_cuts_1 (by decide) ?_
  refine va_put (D := (dC, dI)) (ci := 2) (v := .int 0) (ty := .int) (C := RM) (T := TM) (N := 15) hx hb hts i_M tyM tyM_ok nmM hown hK hP hD hS 0 rfl rfl 0 (by decide) (hts _ m_376) (fun _ h9 => h9) rfl (by decide +kernel) rfl rfl (Nat.le_of_ble_eq_true rfl) d_M_cuts_2 (fun H locs hP hD hS => ?_)
  have hP : va_P (dC, dI) vwCl [(h 0, .inr (2, [.int 0, .int (MS.lines st), .ref (h 1), .int (MS.cuts st), .ref (h 2), .ref (h 3), .int (MS.curves st), .ref (h 4), .ref (h 5), .long (MS.up st), .long (MS.down st), .long (MS.xu st), .long (MS.xd st), .int (MS.strip st), .int (MS.place st)])), (h 1, .inl (k 1, 18, .inl (MS.num st))), (h 2, .inl (k 2, 24, .inr (.inl (MS.cu st)))), (h 3, .inl (k 3, 24, .inr (.inl (MS.cd st)))), (h 4, .inl (k 4, 6, .inr (.inl (MS.yu st)))), (h 5, .inl (k 5, 6, .inr (.inl (MS.yd st))))] H := hP
  have hD : va_D A [(h 0, .inr (2, [.int 0, .int (MS.lines st), .ref (h 1), .int (MS.cuts st), .ref (h 2), .ref (h 3), .int (MS.curves st), .ref (h 4), .ref (h 5), .long (MS.up st), .long (MS.down st), .long (MS.xu st), .long (MS.xd st), .int (MS.strip st), .int (MS.place st)])), (h 1, .inl (k 1, 18, .inl (MS.num st))), (h 2, .inl (k 2, 24, .inr (.inl (MS.cu st)))), (h 3, .inl (k 3, 24, .inr (.inl (MS.cd st)))), (h 4, .inl (k 4, 6, .inr (.inl (MS.yu st)))), (h 5, .inl (k 5, 6, .inr (.inl (MS.yd st))))] := hD
  refine lv_aload_n hx hb d_M_cuts_5 rfl (lv_at hl 0 rfl) ?_
  refine va_get (D := (dC, dI)) (ci := 2) (v := .int (MS.cuts st)) (C := RM) (T := TM) (N := 15) hx hb hts i_M hown hK hP 0 rfl rfl 3 (by decide) (hts _ m_379) (fun _ h9 => h9) rfl d_M_cuts_6 ?_
  have hP : va_P (dC, dI) vwCl (WM h k (0, (MS.lines st), (MS.num st), (MS.cuts st), (MS.cu st), (MS.cd st), (MS.curves st), (MS.yu st), (MS.yd st), (MS.up st), (MS.down st), (MS.xu st), (MS.xd st), (MS.strip st), (MS.place st))) _ := hP
  have hD : va_D A (WM h k (0, (MS.lines st), (MS.num st), (MS.cuts st), (MS.cu st), (MS.cd st), (MS.curves st), (MS.yu st), (MS.yd st), (MS.up st), (MS.down st), (MS.xu st), (MS.xd st), (MS.strip st), (MS.place st))) := hD
  exact W.iret (v := (MS.cuts st)) hx hb hr (fun t ht hW => ⟨⟨(MS.cuts st), (0, (MS.lines st), (MS.num st), (MS.cuts st), (MS.cu st), (MS.cd st), (MS.curves st), (MS.yu st), (MS.yd st), (MS.up st), (MS.down st), (MS.xu st), (MS.xd st), (MS.strip st), (MS.place st)), rfl, hw, by rw [ht]; exact hP, hD⟩, hS.F ht⟩) hS.2.2 d_M_cuts_9
def w_M_cut (st : MS) (post : Int64 → MS → Prop) (p0 : Int32) (p1 : Int32) : Prop := w_M_in (fun r1 => ((¬ r1 = 0 → (w_M_in (fun r3 => ((r3 = 0 → (post 0 (2, (MS.lines st), (MS.num st), (MS.cuts st), (MS.cu st), (MS.cd st), (MS.curves st), (MS.yu st), (MS.yd st), (MS.up st), (MS.down st), (MS.xu st), (MS.xd st), (MS.strip st), (MS.place st)))) ∧ (¬ r3 = 0 → ((¬ p1 = 0 → (vp_in p0 24 ∧ (post ((MS.cd st) p0.toNatClampNeg) (0, (MS.lines st), (MS.num st), (MS.cuts st), (MS.cu st), (MS.cd st), (MS.curves st), (MS.yu st), (MS.yd st), (MS.up st), (MS.down st), (MS.xu st), (MS.xd st), (MS.strip st), (MS.place st))))) ∧ (p1 = 0 → (vp_in p0 24 ∧ (post ((MS.cu st) p0.toNatClampNeg) (0, (MS.lines st), (MS.num st), (MS.cuts st), (MS.cu st), (MS.cd st), (MS.curves st), (MS.yu st), (MS.yd st), (MS.up st), (MS.down st), (MS.xu st), (MS.xd st), (MS.strip st), (MS.place st))))))))) p1.toInt64 (0 : Int64) (1 : Int64))) ∧ (r1 = 0 → (post 0 (1, (MS.lines st), (MS.num st), (MS.cuts st), (MS.cu st), (MS.cd st), (MS.curves st), (MS.yu st), (MS.yd st), (MS.up st), (MS.down st), (MS.xu st), (MS.xd st), (MS.strip st), (MS.place st)))))) p0.toInt64 (0 : Int64) (((MS.cuts st) - 1).toInt64)
set_option maxHeartbeats 4000000 in
set_option maxRecDepth 100000 in
theorem t_M_cut (l : Launch) (dC : Nat → ClassId) (dI : Nat → Nat → Nat) (h : Nat → Nat) (k : Nat → ClassId) (sz : Nat) (st : MS) (p0 : Int32) (p1 : Int32) {post : Int64 → MS → Prop} (hw : w_M_cut st post p0 p1) : Met l y_M_cut (Cond.code y_M_cut prog_4_method_13_code 3 (some .long) :: cw) ({ frames := 1, cells := 0, slots := 0, locals := 25 } : Room) (va_Pc [.ref (h 0), .int p0, .int p1] (pRw (dC, dI) (WM h k st) (YM k) sz)) (va_Ql post (fun u t => va_P (dC, dI) vwCl (WM h k u) t.heap ∧ va_D (va_A (WM h k st) sz) (WM h k u)) (va_A (WM h k st) sz)) 0 0 (va_A (WM h k st) sz) := by
  refine Met.ofW (cc := prog_4_method_13_code) (maxL := 3) (ret := (some .long)) (by decide) rfl ?_
  intro p e s m args below meth c s₁ B hml hv
  obtain ⟨rfl, hsz, hP, hK, hN, hD0⟩ := hv
  have hx := B.exec
  have hb := B.bytes
  have hr := B.returns
  have hts : ∀ w ∈ cw, w.before _ s = true := fun w h => atoms_spec (ws := (Cond.code y_M_cut prog_4_method_13_code 3 (some .long) :: cw)) B.pre w (List.mem_cons_of_mem _ h)
  have hown : s.vm.findClass RM = some m.cls := findClass_of_methodNamed B.named
  have hlocks := B.notSynchronized
  have C0 : cxt p s m _ meth c prog_4_method_13_code 3 RM (some .long) := ⟨hx, hb, hr, hml, hown, hts, hlocks⟩
  subst hsz
  have hD := hD0.self (sz := s.heap.size)
  generalize hAe : va_A (WM h k st) s.heap.size = A at hD ⊢
  have hA : ∀ q : Nat, s.heap.size ≤ q → A q := fun q h => by rw [← hAe]; exact Or.inr h
  have hS : va_S A s.heap s.heap [] := va_S.rf
  have hl := lv_entry ([.ref (h 0), .int p0, .int p1]) (n := 3) (Nat.le_of_ble_eq_true rfl)
  rw [lg_entry_eq]
  generalize (lg_sl ([.ref (h 0), .int p0, .int p1]) ++ List.replicate (3 - (lg_sl ([.ref (h 0), .int p0, .int p1])).length) Slot.unset).toArray = ls at hl ⊢
  have hl : lv_has ls 3 [(0, .ref (h 0)), (1, .int p0), (2, .int p1)] := hl
  unfold w_M_cut at hw
  refine lv_aload_n hx hb d_M_cut_0 rfl (lv_at hl 0 rfl) ?_
  refine lv_iload_n hx hb d_M_cut_1 rfl (lv_at hl 1 rfl) ?_
  refine lv_i2l (v := p0.toInt64) hx hb d_M_cut_2 rfl ?_
  refine lv_lconst (v := 0) hx hb d_M_cut_3 (by decide) ?_
  refine lv_aload_n hx hb d_M_cut_4 rfl (lv_at hl 0 rfl) ?_
  refine va_get (D := (dC, dI)) (ci := 2) (v := .int (MS.cuts st)) (C := RM) (T := TM) (N := 15) hx hb hts i_M hown hK hP 0 rfl rfl 3 (by decide) (hts _ m_379) (fun _ h9 => h9) rfl d_M_cut_5 ?_
  refine lv_iconst (v := 1) hx hb d_M_cut_8 (by decide) ?_
  refine lv_isub hx hb d_M_cut_9 ?_
  refine lv_i2l (v := ((MS.cuts st) - 1).toInt64) hx hb d_M_cut_10 rfl ?_
  refine vp_callSi (va_Run.run (va_runS (As := [.long p0.toInt64, .long 0, .long (((MS.cuts st) - 1).toInt64)]) (rest := [.ref (h 0)]) ⟨hx, hb, hml, hown, hts⟩ (t_M_in l p0.toInt64 (0 : Int64) (((MS.cuts st) - 1).toInt64) hw) (va_cwS 3 hts (gS m_432 m_433 m_5 (cw_call m_434)) rfl rfl rfl (by decide +kernel) ⟨Nat.le_of_ble_eq_true rfl, Nat.le_of_ble_eq_true rfl⟩) ⟨pSt_bl, fun U hU hW => ⟨rfl, trivial⟩⟩ rfl rfl hl.1 rfl (lv_room (Nat.le_of_ble_eq_true rfl)) d_M_cut_11 ⟨Nat.le_of_ble_eq_true rfl, Nat.le_of_ble_eq_true rfl⟩)) (fun r1 hw => ?_)
  refine lv_if_ne (tgt := 21) hx hb d_M_cut_14 (by decide) (fun c2 => ?_) (fun c2 => ?_)
  · skip
    have hw := hw.1 c2
    refine lv_iload_n hx hb d_M_cut_21 rfl (lv_at hl 2 rfl) ?_
    refine lv_i2l (v := p1.toInt64) hx hb d_M_cut_22 rfl ?_
    refine lv_lconst (v := 0) hx hb d_M_cut_23 (by decide) ?_
    refine lv_lconst (v := 1) hx hb d_M_cut_24 (by decide) ?_
    refine vp_callSi (va_Run.run (va_runS (As := [.long p1.toInt64, .long 0, .long 1]) (rest := [.ref (h 0)]) ⟨hx, hb, hml, hown, hts⟩ (t_M_in l p1.toInt64 (0 : Int64) (1 : Int64) hw) (va_cwS 3 hts (gS m_432 m_433 m_5 (cw_call m_434)) rfl rfl rfl (by decide +kernel) ⟨Nat.le_of_ble_eq_true rfl, Nat.le_of_ble_eq_true rfl⟩) ⟨pSt_bl, fun U hU hW => ⟨rfl, trivial⟩⟩ rfl rfl hl.1 rfl (lv_room (Nat.le_of_ble_eq_true rfl)) d_M_cut_25 ⟨Nat.le_of_ble_eq_true rfl, Nat.le_of_ble_eq_true rfl⟩)) (fun r3 hw => ?_)
    refine lv_if_eq (tgt := 35) hx hb d_M_cut_28 (by decide) (fun c4 => ?_) (fun c4 => ?_)
    · skip
      have hw := hw.1 c4
      refine lv_iconst (v := 2) hx hb d_M_cut_35 (by decide) ?_
      refine va_put (D := (dC, dI)) (ci := 2) (v := .int 2) (ty := .int) (C := RM) (T := TM) (N := 15) hx hb hts i_M tyM tyM_ok nmM hown hK hP hD hS 0 rfl rfl 0 (by decide) (hts _ m_376) (fun _ h9 => h9) rfl (by decide +kernel) rfl rfl (Nat.le_of_ble_eq_true rfl) d_M_cut_36 (fun H locs hP hD hS => ?_)
      have hP : va_P (dC, dI) vwCl [(h 0, .inr (2, [.int 2, .int (MS.lines st), .ref (h 1), .int (MS.cuts st), .ref (h 2), .ref (h 3), .int (MS.curves st), .ref (h 4), .ref (h 5), .long (MS.up st), .long (MS.down st), .long (MS.xu st), .long (MS.xd st), .int (MS.strip st), .int (MS.place st)])), (h 1, .inl (k 1, 18, .inl (MS.num st))), (h 2, .inl (k 2, 24, .inr (.inl (MS.cu st)))), (h 3, .inl (k 3, 24, .inr (.inl (MS.cd st)))), (h 4, .inl (k 4, 6, .inr (.inl (MS.yu st)))), (h 5, .inl (k 5, 6, .inr (.inl (MS.yd st))))] H := hP
      have hD : va_D A [(h 0, .inr (2, [.int 2, .int (MS.lines st), .ref (h 1), .int (MS.cuts st), .ref (h 2), .ref (h 3), .int (MS.curves st), .ref (h 4), .ref (h 5), .long (MS.up st), .long (MS.down st), .long (MS.xu st), .long (MS.xd st), .int (MS.strip st), .int (MS.place st)])), (h 1, .inl (k 1, 18, .inl (MS.num st))), (h 2, .inl (k 2, 24, .inr (.inl (MS.cu st)))), (h 3, .inl (k 3, 24, .inr (.inl (MS.cd st)))), (h 4, .inl (k 4, 6, .inr (.inl (MS.yu st)))), (h 5, .inl (k 5, 6, .inr (.inl (MS.yd st))))] := hD
      refine lv_aload_n hx hb d_M_cut_39 rfl (lv_at hl 0 rfl) ?_
      refine va_get (D := (dC, dI)) (ci := 2) (v := .int 2) (C := RM) (T := TM) (N := 15) hx hb hts i_M hown hK hP 0 rfl rfl 0 (by decide) (hts _ m_376) (fun _ h9 => h9) rfl d_M_cut_40 ?_
      refine lv_if_le (tgt := 48) hx hb d_M_cut_43 (by decide) (fun cz => absurd cz (by decide)) (fun _ => ?_)
      refine lv_lconst (v := 0) hx hb d_M_cut_46 (by decide) ?_
      have hP : va_P (dC, dI) vwCl (WM h k (2, (MS.lines st), (MS.num st), (MS.cuts st), (MS.cu st), (MS.cd st), (MS.curves st), (MS.yu st), (MS.yd st), (MS.up st), (MS.down st), (MS.xu st), (MS.xd st), (MS.strip st), (MS.place st))) _ := hP
      have hD : va_D A (WM h k (2, (MS.lines st), (MS.num st), (MS.cuts st), (MS.cu st), (MS.cd st), (MS.curves st), (MS.yu st), (MS.yd st), (MS.up st), (MS.down st), (MS.xu st), (MS.xd st), (MS.strip st), (MS.place st))) := hD
      exact W.lret (v := 0) hx hb hr (fun t ht hW => ⟨⟨0, (2, (MS.lines st), (MS.num st), (MS.cuts st), (MS.cu st), (MS.cd st), (MS.curves st), (MS.yu st), (MS.yd st), (MS.up st), (MS.down st), (MS.xu st), (MS.xd st), (MS.strip st), (MS.place st)), rfl, hw, by rw [ht]; exact hP, hD⟩, hS.F ht⟩) hS.2.2 d_M_cut_47
    · skip
      have hw := hw.2 c4
      refine lv_iconst (v := 0) hx hb d_M_cut_31 (by decide) ?_
      refine lv_goto (tgt := 36) hx hb d_M_cut_32 (by decide) ?_
      refine va_put (D := (dC, dI)) (ci := 2) (v := .int 0) (ty := .int) (C := RM) (T := TM) (N := 15) hx hb hts i_M tyM tyM_ok nmM hown hK hP hD hS 0 rfl rfl 0 (by decide) (hts _ m_376) (fun _ h9 => h9) rfl (by decide +kernel) rfl rfl (Nat.le_of_ble_eq_true rfl) d_M_cut_36 (fun H locs hP hD hS => ?_)
      have hP : va_P (dC, dI) vwCl [(h 0, .inr (2, [.int 0, .int (MS.lines st), .ref (h 1), .int (MS.cuts st), .ref (h 2), .ref (h 3), .int (MS.curves st), .ref (h 4), .ref (h 5), .long (MS.up st), .long (MS.down st), .long (MS.xu st), .long (MS.xd st), .int (MS.strip st), .int (MS.place st)])), (h 1, .inl (k 1, 18, .inl (MS.num st))), (h 2, .inl (k 2, 24, .inr (.inl (MS.cu st)))), (h 3, .inl (k 3, 24, .inr (.inl (MS.cd st)))), (h 4, .inl (k 4, 6, .inr (.inl (MS.yu st)))), (h 5, .inl (k 5, 6, .inr (.inl (MS.yd st))))] H := hP
      have hD : va_D A [(h 0, .inr (2, [.int 0, .int (MS.lines st), .ref (h 1), .int (MS.cuts st), .ref (h 2), .ref (h 3), .int (MS.curves st), .ref (h 4), .ref (h 5), .long (MS.up st), .long (MS.down st), .long (MS.xu st), .long (MS.xd st), .int (MS.strip st), .int (MS.place st)])), (h 1, .inl (k 1, 18, .inl (MS.num st))), (h 2, .inl (k 2, 24, .inr (.inl (MS.cu st)))), (h 3, .inl (k 3, 24, .inr (.inl (MS.cd st)))), (h 4, .inl (k 4, 6, .inr (.inl (MS.yu st)))), (h 5, .inl (k 5, 6, .inr (.inl (MS.yd st))))] := hD
      refine lv_aload_n hx hb d_M_cut_39 rfl (lv_at hl 0 rfl) ?_
      refine va_get (D := (dC, dI)) (ci := 2) (v := .int 0) (C := RM) (T := TM) (N := 15) hx hb hts i_M hown hK hP 0 rfl rfl 0 (by decide) (hts _ m_376) (fun _ h9 => h9) rfl d_M_cut_40 ?_
      refine lv_if_le (tgt := 48) hx hb d_M_cut_43 (by decide) (fun _ => ?_) (fun cz => absurd (by decide) cz)
      refine lv_iload_n hx hb d_M_cut_48 rfl (lv_at hl 2 rfl) ?_
      refine lv_if_ne (tgt := 61) hx hb d_M_cut_49 (by decide) (fun c5 => ?_) (fun c5 => ?_)
      · skip
        have hw := hw.1 c5
        refine lv_aload_n hx hb d_M_cut_61 rfl (lv_at hl 0 rfl) ?_
        refine va_get (D := (dC, dI)) (ci := 2) (v := .ref (h 3)) (C := RM) (T := TM) (N := 15) hx hb hts i_M hown hK hP 0 rfl rfl 5 (by decide) (hts _ m_381) (fun _ h9 => h9) rfl d_M_cut_62 ?_
        refine lv_iload_n hx hb d_M_cut_65 rfl (lv_at hl 1 rfl) ?_
        obtain ⟨h6, hw⟩ := hw
        refine va_lald hx hb hK hP 3 2 rfl rfl h6 d_M_cut_66 ?_
        have hP : va_P (dC, dI) vwCl (WM h k (0, (MS.lines st), (MS.num st), (MS.cuts st), (MS.cu st), (MS.cd st), (MS.curves st), (MS.yu st), (MS.yd st), (MS.up st), (MS.down st), (MS.xu st), (MS.xd st), (MS.strip st), (MS.place st))) _ := hP
        have hD : va_D A (WM h k (0, (MS.lines st), (MS.num st), (MS.cuts st), (MS.cu st), (MS.cd st), (MS.curves st), (MS.yu st), (MS.yd st), (MS.up st), (MS.down st), (MS.xu st), (MS.xd st), (MS.strip st), (MS.place st))) := hD
        exact W.lret (v := ((MS.cd st) p0.toNatClampNeg)) hx hb hr (fun t ht hW => ⟨⟨((MS.cd st) p0.toNatClampNeg), (0, (MS.lines st), (MS.num st), (MS.cuts st), (MS.cu st), (MS.cd st), (MS.curves st), (MS.yu st), (MS.yd st), (MS.up st), (MS.down st), (MS.xu st), (MS.xd st), (MS.strip st), (MS.place st)), rfl, hw, by rw [ht]; exact hP, hD⟩, hS.F ht⟩) hS.2.2 d_M_cut_67
      · skip
        have hw := hw.2 c5
        refine lv_aload_n hx hb d_M_cut_52 rfl (lv_at hl 0 rfl) ?_
        refine va_get (D := (dC, dI)) (ci := 2) (v := .ref (h 2)) (C := RM) (T := TM) (N := 15) hx hb hts i_M hown hK hP 0 rfl rfl 4 (by decide) (hts _ m_380) (fun _ h9 => h9) rfl d_M_cut_53 ?_
        refine lv_iload_n hx hb d_M_cut_56 rfl (lv_at hl 1 rfl) ?_
        obtain ⟨h7, hw⟩ := hw
        refine va_lald hx hb hK hP 2 1 rfl rfl h7 d_M_cut_57 ?_
        refine lv_goto (tgt := 67) hx hb d_M_cut_58 (by decide) ?_
        have hP : va_P (dC, dI) vwCl (WM h k (0, (MS.lines st), (MS.num st), (MS.cuts st), (MS.cu st), (MS.cd st), (MS.curves st), (MS.yu st), (MS.yd st), (MS.up st), (MS.down st), (MS.xu st), (MS.xd st), (MS.strip st), (MS.place st))) _ := hP
        have hD : va_D A (WM h k (0, (MS.lines st), (MS.num st), (MS.cuts st), (MS.cu st), (MS.cd st), (MS.curves st), (MS.yu st), (MS.yd st), (MS.up st), (MS.down st), (MS.xu st), (MS.xd st), (MS.strip st), (MS.place st))) := hD
        exact W.lret (v := ((MS.cu st) p0.toNatClampNeg)) hx hb hr (fun t ht hW => ⟨⟨((MS.cu st) p0.toNatClampNeg), (0, (MS.lines st), (MS.num st), (MS.cuts st), (MS.cu st), (MS.cd st), (MS.curves st), (MS.yu st), (MS.yd st), (MS.up st), (MS.down st), (MS.xu st), (MS.xd st), (MS.strip st), (MS.place st)), rfl, hw, by rw [ht]; exact hP, hD⟩, hS.F ht⟩) hS.2.2 d_M_cut_67
  · skip
    have hw := hw.2 c2
    refine lv_iconst (v := 1) hx hb d_M_cut_17 (by decide) ?_
    refine lv_goto (tgt := 36) hx hb d_M_cut_18 (by decide) ?_
    refine va_put (D := (dC, dI)) (ci := 2) (v := .int 1) (ty := .int) (C := RM) (T := TM) (N := 15) hx hb hts i_M tyM tyM_ok nmM hown hK hP hD hS 0 rfl rfl 0 (by decide) (hts _ m_376) (fun _ h9 => h9) rfl (by decide +kernel) rfl rfl (Nat.le_of_ble_eq_true rfl) d_M_cut_36 (fun H locs hP hD hS => ?_)
    have hP : va_P (dC, dI) vwCl [(h 0, .inr (2, [.int 1, .int (MS.lines st), .ref (h 1), .int (MS.cuts st), .ref (h 2), .ref (h 3), .int (MS.curves st), .ref (h 4), .ref (h 5), .long (MS.up st), .long (MS.down st), .long (MS.xu st), .long (MS.xd st), .int (MS.strip st), .int (MS.place st)])), (h 1, .inl (k 1, 18, .inl (MS.num st))), (h 2, .inl (k 2, 24, .inr (.inl (MS.cu st)))), (h 3, .inl (k 3, 24, .inr (.inl (MS.cd st)))), (h 4, .inl (k 4, 6, .inr (.inl (MS.yu st)))), (h 5, .inl (k 5, 6, .inr (.inl (MS.yd st))))] H := hP
    have hD : va_D A [(h 0, .inr (2, [.int 1, .int (MS.lines st), .ref (h 1), .int (MS.cuts st), .ref (h 2), .ref (h 3), .int (MS.curves st), .ref (h 4), .ref (h 5), .long (MS.up st), .long (MS.down st), .long (MS.xu st), .long (MS.xd st), .int (MS.strip st), .int (MS.place st)])), (h 1, .inl (k 1, 18, .inl (MS.num st))), (h 2, .inl (k 2, 24, .inr (.inl (MS.cu st)))), (h 3, .inl (k 3, 24, .inr (.inl (MS.cd st)))), (h 4, .inl (k 4, 6, .inr (.inl (MS.yu st)))), (h 5, .inl (k 5, 6, .inr (.inl (MS.yd st))))] := hD
    refine lv_aload_n hx hb d_M_cut_39 rfl (lv_at hl 0 rfl) ?_
    refine va_get (D := (dC, dI)) (ci := 2) (v := .int 1) (C := RM) (T := TM) (N := 15) hx hb hts i_M hown hK hP 0 rfl rfl 0 (by decide) (hts _ m_376) (fun _ h9 => h9) rfl d_M_cut_40 ?_
    refine lv_if_le (tgt := 48) hx hb d_M_cut_43 (by decide) (fun cz => absurd cz (by decide)) (fun _ => ?_)
    refine lv_lconst (v := 0) hx hb d_M_cut_46 (by decide) ?_
    have hP : va_P (dC, dI) vwCl (WM h k (1, (MS.lines st), (MS.num st), (MS.cuts st), (MS.cu st), (MS.cd st), (MS.curves st), (MS.yu st), (MS.yd st), (MS.up st), (MS.down st), (MS.xu st), (MS.xd st), (MS.strip st), (MS.place st))) _ := hP
    have hD : va_D A (WM h k (1, (MS.lines st), (MS.num st), (MS.cuts st), (MS.cu st), (MS.cd st), (MS.curves st), (MS.yu st), (MS.yd st), (MS.up st), (MS.down st), (MS.xu st), (MS.xd st), (MS.strip st), (MS.place st))) := hD
    exact W.lret (v := 0) hx hb hr (fun t ht hW => ⟨⟨0, (1, (MS.lines st), (MS.num st), (MS.cuts st), (MS.cu st), (MS.cd st), (MS.curves st), (MS.yu st), (MS.yd st), (MS.up st), (MS.down st), (MS.xu st), (MS.xd st), (MS.strip st), (MS.place st)), rfl, hw, by rw [ht]; exact hP, hD⟩, hS.F ht⟩) hS.2.2 d_M_cut_47
def w_M_curves (st : MS) (post : Int32 → MS → Prop) (p0 : Int32) : Prop := w_M_in (fun r1 => ((r1 = 0 → (post 0 (1, (MS.lines st), (MS.num st), (MS.cuts st), (MS.cu st), (MS.cd st), (MS.curves st), (MS.yu st), (MS.yd st), (MS.up st), (MS.down st), (MS.xu st), (MS.xd st), (MS.strip st), (MS.place st)))) ∧ (¬ r1 = 0 → (w_M_curvesOf (0, (MS.lines st), (MS.num st), (MS.cuts st), (MS.cu st), (MS.cd st), (MS.curves st), (MS.yu st), (MS.yd st), (MS.up st), (MS.down st), (MS.xu st), (MS.xd st), (MS.strip st), (MS.place st)) (fun u3 => (post (MS.curves u3) u3)) p0)))) p0.toInt64 (0 : Int64) ((2 * (MS.cuts st)).toInt64)
set_option maxHeartbeats 4000000 in
set_option maxRecDepth 100000 in
theorem t_M_curves (l : Launch) (dC : Nat → ClassId) (dI : Nat → Nat → Nat) (h : Nat → Nat) (k : Nat → ClassId) (sz : Nat) (st : MS) (p0 : Int32) {post : Int32 → MS → Prop} (hw : w_M_curves st post p0) : Met l y_M_curves (Cond.code y_M_curves prog_4_method_19_code 2 (some .int) :: cw) ({ frames := 4, cells := 0, slots := 0, locals := 95 } : Room) (va_Pc [.ref (h 0), .int p0] (pRw (dC, dI) (WM h k st) (YM k) sz)) (va_Qi post (fun u t => va_P (dC, dI) vwCl (WM h k u) t.heap ∧ va_D (va_A (WM h k st) sz) (WM h k u)) (va_A (WM h k st) sz)) 0 0 (va_A (WM h k st) sz) := by
  refine Met.ofW (cc := prog_4_method_19_code) (maxL := 2) (ret := (some .int)) (by decide) rfl ?_
  intro p e s m args below meth c s₁ B hml hv
  obtain ⟨rfl, hsz, hP, hK, hN, hD0⟩ := hv
  have hx := B.exec
  have hb := B.bytes
  have hr := B.returns
  have hts : ∀ w ∈ cw, w.before _ s = true := fun w h => atoms_spec (ws := (Cond.code y_M_curves prog_4_method_19_code 2 (some .int) :: cw)) B.pre w (List.mem_cons_of_mem _ h)
  have hown : s.vm.findClass RM = some m.cls := findClass_of_methodNamed B.named
  have hlocks := B.notSynchronized
  have C0 : cxt p s m _ meth c prog_4_method_19_code 2 RM (some .int) := ⟨hx, hb, hr, hml, hown, hts, hlocks⟩
  subst hsz
  have hD := hD0.self (sz := s.heap.size)
  generalize hAe : va_A (WM h k st) s.heap.size = A at hD ⊢
  have hA : ∀ q : Nat, s.heap.size ≤ q → A q := fun q h => by rw [← hAe]; exact Or.inr h
  have hS : va_S A s.heap s.heap [] := va_S.rf
  have hl := lv_entry ([.ref (h 0), .int p0]) (n := 2) (Nat.le_of_ble_eq_true rfl)
  rw [lg_entry_eq]
  generalize (lg_sl ([.ref (h 0), .int p0]) ++ List.replicate (2 - (lg_sl ([.ref (h 0), .int p0])).length) Slot.unset).toArray = ls at hl ⊢
  have hl : lv_has ls 2 [(0, .ref (h 0)), (1, .int p0)] := hl
  unfold w_M_curves at hw
  refine lv_aload_n hx hb d_M_curves_0 rfl (lv_at hl 0 rfl) ?_
  refine lv_iload_n hx hb d_M_curves_1 rfl (lv_at hl 1 rfl) ?_
  refine lv_i2l (v := p0.toInt64) hx hb d_M_curves_2 rfl ?_
  refine lv_lconst (v := 0) hx hb d_M_curves_3 (by decide) ?_
  refine lv_iconst (v := 2) hx hb d_M_curves_4 (by decide) ?_
  refine lv_aload_n hx hb d_M_curves_5 rfl (lv_at hl 0 rfl) ?_
  refine va_get (D := (dC, dI)) (ci := 2) (v := .int (MS.cuts st)) (C := RM) (T := TM) (N := 15) hx hb hts i_M hown hK hP 0 rfl rfl 3 (by decide) (hts _ m_379) (fun _ h9 => h9) rfl d_M_curves_6 ?_
  refine lv_imul hx hb d_M_curves_9 ?_
  refine lv_i2l (v := (2 * (MS.cuts st)).toInt64) hx hb d_M_curves_10 rfl ?_
  refine vp_callSi (va_Run.run (va_runS (As := [.long p0.toInt64, .long 0, .long ((2 * (MS.cuts st)).toInt64)]) (rest := [.ref (h 0)]) ⟨hx, hb, hml, hown, hts⟩ (t_M_in l p0.toInt64 (0 : Int64) ((2 * (MS.cuts st)).toInt64) hw) (va_cwS 3 hts (gS m_432 m_433 m_5 (cw_call m_434)) rfl rfl rfl (by decide +kernel) ⟨Nat.le_of_ble_eq_true rfl, Nat.le_of_ble_eq_true rfl⟩) ⟨pSt_bl, fun U hU hW => ⟨rfl, trivial⟩⟩ rfl rfl hl.1 rfl (lv_room (Nat.le_of_ble_eq_true rfl)) d_M_curves_11 ⟨Nat.le_of_ble_eq_true rfl, Nat.le_of_ble_eq_true rfl⟩)) (fun r1 hw => ?_)
  refine lv_if_eq (tgt := 21) hx hb d_M_curves_14 (by decide) (fun c2 => ?_) (fun c2 => ?_)
  · skip
    have hw := hw.1 c2
    refine lv_iconst (v := 1) hx hb d_M_curves_21 (by decide) ?_
    refine va_put (D := (dC, dI)) (ci := 2) (v := .int 1) (ty := .int) (C := RM) (T := TM) (N := 15) hx hb hts i_M tyM tyM_ok nmM hown hK hP hD hS 0 rfl rfl 0 (by decide) (hts _ m_376) (fun _ h9 => h9) rfl (by decide +kernel) rfl rfl (Nat.le_of_ble_eq_true rfl) d_M_curves_22 (fun H locs hP hD hS => ?_)
    have hP : va_P (dC, dI) vwCl [(h 0, .inr (2, [.int 1, .int (MS.lines st), .ref (h 1), .int (MS.cuts st), .ref (h 2), .ref (h 3), .int (MS.curves st), .ref (h 4), .ref (h 5), .long (MS.up st), .long (MS.down st), .long (MS.xu st), .long (MS.xd st), .int (MS.strip st), .int (MS.place st)])), (h 1, .inl (k 1, 18, .inl (MS.num st))), (h 2, .inl (k 2, 24, .inr (.inl (MS.cu st)))), (h 3, .inl (k 3, 24, .inr (.inl (MS.cd st)))), (h 4, .inl (k 4, 6, .inr (.inl (MS.yu st)))), (h 5, .inl (k 5, 6, .inr (.inl (MS.yd st))))] H := hP
    have hD : va_D A [(h 0, .inr (2, [.int 1, .int (MS.lines st), .ref (h 1), .int (MS.cuts st), .ref (h 2), .ref (h 3), .int (MS.curves st), .ref (h 4), .ref (h 5), .long (MS.up st), .long (MS.down st), .long (MS.xu st), .long (MS.xd st), .int (MS.strip st), .int (MS.place st)])), (h 1, .inl (k 1, 18, .inl (MS.num st))), (h 2, .inl (k 2, 24, .inr (.inl (MS.cu st)))), (h 3, .inl (k 3, 24, .inr (.inl (MS.cd st)))), (h 4, .inl (k 4, 6, .inr (.inl (MS.yu st)))), (h 5, .inl (k 5, 6, .inr (.inl (MS.yd st))))] := hD
    refine lv_aload_n hx hb d_M_curves_25 rfl (lv_at hl 0 rfl) ?_
    refine va_get (D := (dC, dI)) (ci := 2) (v := .int 1) (C := RM) (T := TM) (N := 15) hx hb hts i_M hown hK hP 0 rfl rfl 0 (by decide) (hts _ m_376) (fun _ h9 => h9) rfl d_M_curves_26 ?_
    refine lv_if_le (tgt := 34) hx hb d_M_curves_29 (by decide) (fun cz => absurd cz (by decide)) (fun _ => ?_)
    refine lv_iconst (v := 0) hx hb d_M_curves_32 (by decide) ?_
    have hP : va_P (dC, dI) vwCl (WM h k (1, (MS.lines st), (MS.num st), (MS.cuts st), (MS.cu st), (MS.cd st), (MS.curves st), (MS.yu st), (MS.yd st), (MS.up st), (MS.down st), (MS.xu st), (MS.xd st), (MS.strip st), (MS.place st))) _ := hP
    have hD : va_D A (WM h k (1, (MS.lines st), (MS.num st), (MS.cuts st), (MS.cu st), (MS.cd st), (MS.curves st), (MS.yu st), (MS.yd st), (MS.up st), (MS.down st), (MS.xu st), (MS.xd st), (MS.strip st), (MS.place st))) := hD
    exact W.iret (v := 0) hx hb hr (fun t ht hW => ⟨⟨0, (1, (MS.lines st), (MS.num st), (MS.cuts st), (MS.cu st), (MS.cd st), (MS.curves st), (MS.yu st), (MS.yd st), (MS.up st), (MS.down st), (MS.xu st), (MS.xd st), (MS.strip st), (MS.place st)), rfl, hw, by rw [ht]; exact hP, hD⟩, hS.F ht⟩) hS.2.2 d_M_curves_33
  · skip
    have hw := hw.2 c2
    refine lv_iconst (v := 0) hx hb d_M_curves_17 (by decide) ?_
    refine lv_goto (tgt := 22) hx hb d_M_curves_18 (by decide) ?_
    refine va_put (D := (dC, dI)) (ci := 2) (v := .int 0) (ty := .int) (C := RM) (T := TM) (N := 15) hx hb hts i_M tyM tyM_ok nmM hown hK hP hD hS 0 rfl rfl 0 (by decide) (hts _ m_376) (fun _ h9 => h9) rfl (by decide +kernel) rfl rfl (Nat.le_of_ble_eq_true rfl) d_M_curves_22 (fun H locs hP hD hS => ?_)
    have hP : va_P (dC, dI) vwCl [(h 0, .inr (2, [.int 0, .int (MS.lines st), .ref (h 1), .int (MS.cuts st), .ref (h 2), .ref (h 3), .int (MS.curves st), .ref (h 4), .ref (h 5), .long (MS.up st), .long (MS.down st), .long (MS.xu st), .long (MS.xd st), .int (MS.strip st), .int (MS.place st)])), (h 1, .inl (k 1, 18, .inl (MS.num st))), (h 2, .inl (k 2, 24, .inr (.inl (MS.cu st)))), (h 3, .inl (k 3, 24, .inr (.inl (MS.cd st)))), (h 4, .inl (k 4, 6, .inr (.inl (MS.yu st)))), (h 5, .inl (k 5, 6, .inr (.inl (MS.yd st))))] H := hP
    have hD : va_D A [(h 0, .inr (2, [.int 0, .int (MS.lines st), .ref (h 1), .int (MS.cuts st), .ref (h 2), .ref (h 3), .int (MS.curves st), .ref (h 4), .ref (h 5), .long (MS.up st), .long (MS.down st), .long (MS.xu st), .long (MS.xd st), .int (MS.strip st), .int (MS.place st)])), (h 1, .inl (k 1, 18, .inl (MS.num st))), (h 2, .inl (k 2, 24, .inr (.inl (MS.cu st)))), (h 3, .inl (k 3, 24, .inr (.inl (MS.cd st)))), (h 4, .inl (k 4, 6, .inr (.inl (MS.yu st)))), (h 5, .inl (k 5, 6, .inr (.inl (MS.yd st))))] := hD
    refine lv_aload_n hx hb d_M_curves_25 rfl (lv_at hl 0 rfl) ?_
    refine va_get (D := (dC, dI)) (ci := 2) (v := .int 0) (C := RM) (T := TM) (N := 15) hx hb hts i_M hown hK hP 0 rfl rfl 0 (by decide) (hts _ m_376) (fun _ h9 => h9) rfl d_M_curves_26 ?_
    refine lv_if_le (tgt := 34) hx hb d_M_curves_29 (by decide) (fun _ => ?_) (fun cz => absurd (by decide) cz)
    refine lv_aload_n hx hb d_M_curves_34 rfl (lv_at hl 0 rfl) ?_
    refine lv_iload_n hx hb d_M_curves_35 rfl (lv_at hl 1 rfl) ?_
    have hP : va_P (dC, dI) vwCl (WM h k (0, (MS.lines st), (MS.num st), (MS.cuts st), (MS.cu st), (MS.cd st), (MS.curves st), (MS.yu st), (MS.yd st), (MS.up st), (MS.down st), (MS.xu st), (MS.xd st), (MS.strip st), (MS.place st))) _ := hP
    have hD : va_D A (WM h k (0, (MS.lines st), (MS.num st), (MS.cuts st), (MS.cu st), (MS.cd st), (MS.curves st), (MS.yu st), (MS.yd st), (MS.up st), (MS.down st), (MS.xu st), (MS.xd st), (MS.strip st), (MS.place st))) := hD
    have hFc := va_freeA hD hS hA
    refine va_callv (va_runV (As := [.int p0]) (rest := []) ⟨hx, hb, hml, hown, hts⟩ (t_M_curvesOf l dC dI h k _ (0, (MS.lines st), (MS.num st), (MS.cuts st), (MS.cu st), (MS.cd st), (MS.curves st), (MS.yu st), (MS.yd st), (MS.up st), (MS.down st), (MS.xu st), (MS.xd st), (MS.strip st), (MS.place st)) p0 hw) (cwV 1 hts (gV m_467 m_469 s_19 m_5 (cw_call m_470)) rfl rfl rfl (by decide +kernel) ⟨Nat.le_of_ble_eq_true rfl, Nat.le_of_ble_eq_true rfl⟩) ⟨pRw_bl, va_recv hK hP (ci := 2) (q0 := 0) rfl rfl, fun U hU hW => ⟨rfl, pRw_at hP hK hN hD hU hW⟩⟩ rfl rfl hl.1 rfl (lv_room (Nat.le_of_ble_eq_true rfl)) d_M_curves_36 ⟨Nat.le_of_ble_eq_true rfl, Nat.le_of_ble_eq_true rfl⟩) hS (fun q _ h => hFc q h) hFc (fun u3 t H1 locs ht hvm hw hB hz1 hk1 hS => ?_)
    obtain ⟨hP1, hD1⟩ := hB
    rw [ht] at hP1
    have hP := hP1
    have hD := hD1.weaken (fun _ q _ h => hFc q.1 h)
    generalize H1 = H at hP hS ⊢
    have hP : va_P (dC, dI) vwCl (WM h k u3) H := hP
    have hD : va_D A (WM h k u3) := hD
    refine lv_aload_n hx hb d_M_curves_39 rfl (lv_at hl 0 rfl) ?_
    refine va_get (D := (dC, dI)) (ci := 2) (v := .int (MS.curves u3)) (C := RM) (T := TM) (N := 15) hx hb hts i_M hown hK hP 0 rfl rfl 6 (by decide) (hts _ m_382) (fun _ h9 => h9) rfl d_M_curves_40 ?_
    exact W.iret (v := (MS.curves u3)) hx hb hr (fun t ht hW => ⟨⟨(MS.curves u3), u3, rfl, hw, by rw [ht]; exact hP, hD⟩, hS.F ht⟩) hS.2.2 d_M_curves_43
def w_M_total_9 (post : Int32 → MS → Prop) : Nat → MS → Int32 → Int32 → Prop
  | 0, _, _, _ => False
  | n + 1, st, v1, v2 => ((2 * (MS.cuts st)) < v2 → (post v1 st)) ∧ (¬ (2 * (MS.cuts st)) < v2 → (w_M_curvesOf st (fun u3 => (∀ y4 : Int32, y4 = (v1 + ((2 * (MS.curves u3)) + 1)) → (w_M_total_9 post n u3 y4 (v2 + 1)))) v2))
set_option maxHeartbeats 4000000 in
set_option maxRecDepth 100000 in
theorem k_M_total_9 {p : Program} {l : Launch} {e : Env} {s : State} {m : MethodId} {args : Array Value} {below : List Frame} {meth : Method} {c : Code} {dC : Nat → ClassId} {dI : Nat → Nat → Nat} {h : Nat → Nat} {k : Nat → ClassId} {A : Nat → Prop} {post : Int32 → MS → Prop} (C0 : cxt p s m args meth c prog_4_method_20_code 3 RM (some .int)) (hK : va_K (dC, dI) vwCl (YM k) s) (hN : va_Nw nestW s) (hA : ∀ q, s.heap.size ≤ q → A q) : ∀ (n : Nat), ∀ (st : MS) (v1 : Int32) (v2 : Int32) (H : Heap) (locs : List Loc), va_P (dC, dI) vwCl (WM h k st) H → va_D A (WM h k st) → va_S A s.heap H locs → ∀ ls, lv_has ls 3 [(0, .ref (h 0)), (1, .int v1), (2, .int v2)] → w_M_total_9 post n st v1 v2 → W p l e ({ frames := 4, cells := 0, slots := 0, locals := 95 } : Room) s m args below meth c H locs 0 0 (MQ below (va_Qi post (fun u t => va_P (dC, dI) vwCl (WM h k u) t.heap ∧ va_D A (WM h k u)) A) args s 0 0 A) (F0 m 9 ls []) := by
  obtain ⟨hx, hb, hr, hml, hown, hts, hlocks⟩ := id C0
  intro n
  induction n with
  | zero =>
    intro st v1 v2 H locs hP hD hS ls hl hw
    exact False.elim hw
  | succ n ih =>
    intro st v1 v2 H locs hP hD hS ls hl hw
    rw [w_M_total_9] at hw
    refine lv_iload_n hx hb d_M_total_9 rfl (lv_at hl 2 rfl) ?_
    refine lv_iconst (v := 2) hx hb d_M_total_10 (by decide) ?_
    refine lv_aload_n hx hb d_M_total_11 rfl (lv_at hl 0 rfl) ?_
    refine va_get (D := (dC, dI)) (ci := 2) (v := .int (MS.cuts st)) (C := RM) (T := TM) (N := 15) hx hb hts i_M hown hK hP 0 rfl rfl 3 (by decide) (hts _ m_379) (fun _ h9 => h9) rfl d_M_total_12 ?_
    refine lv_imul hx hb d_M_total_15 ?_
    refine lv_icmp_gt (tgt := 41) hx hb d_M_total_16 (by decide) (fun c2 => ?_) (fun c2 => ?_)
    · skip
      have hw := hw.1 c2
      refine lv_iload_n hx hb d_M_total_41 rfl (lv_at hl 1 rfl) ?_
      exact W.iret (v := v1) hx hb hr (fun t ht hW => ⟨⟨v1, st, rfl, hw, by rw [ht]; exact hP, hD⟩, hS.F ht⟩) hS.2.2 d_M_total_42
    · skip
      have hw := hw.2 c2
      refine lv_aload_n hx hb d_M_total_19 rfl (lv_at hl 0 rfl) ?_
      refine lv_iload_n hx hb d_M_total_20 rfl (lv_at hl 2 rfl) ?_
      have hFc := va_freeA hD hS hA
      refine va_callv (va_runV (As := [.int v2]) (rest := []) ⟨hx, hb, hml, hown, hts⟩ (t_M_curvesOf l dC dI h k _ st v2 hw) (cwV 1 hts (gV m_467 m_469 s_19 m_5 (cw_call m_470)) rfl rfl rfl (by decide +kernel) ⟨Nat.le_of_ble_eq_true rfl, Nat.le_of_ble_eq_true rfl⟩) ⟨pRw_bl, va_recv hK hP (ci := 2) (q0 := 0) rfl rfl, fun U hU hW => ⟨rfl, pRw_at hP hK hN hD hU hW⟩⟩ rfl rfl hl.1 rfl (lv_room (Nat.le_of_ble_eq_true rfl)) d_M_total_21 ⟨Nat.le_of_ble_eq_true rfl, Nat.le_of_ble_eq_true rfl⟩) hS (fun q _ h => hFc q h) hFc (fun u3 t H1 locs ht hvm hw hB hz1 hk1 hS => ?_)
      obtain ⟨hP1, hD1⟩ := hB
      rw [ht] at hP1
      have hP := hP1
      have hD := hD1.weaken (fun _ q _ h => hFc q.1 h)
      generalize H1 = H at hP hS ⊢
      have hP : va_P (dC, dI) vwCl (WM h k u3) H := hP
      have hD : va_D A (WM h k u3) := hD
      refine lv_iload_n hx hb d_M_total_24 rfl (lv_at hl 1 rfl) ?_
      refine lv_iconst (v := 2) hx hb d_M_total_25 (by decide) ?_
      refine lv_aload_n hx hb d_M_total_26 rfl (lv_at hl 0 rfl) ?_
      refine va_get (D := (dC, dI)) (ci := 2) (v := .int (MS.curves u3)) (C := RM) (T := TM) (N := 15) hx hb hts i_M hown hK hP 0 rfl rfl 6 (by decide) (hts _ m_382) (fun _ h9 => h9) rfl d_M_total_27 ?_
      refine lv_imul hx hb d_M_total_30 ?_
      refine lv_iconst (v := 1) hx hb d_M_total_31 (by decide) ?_
      refine lv_iadd hx hb d_M_total_32 ?_
      refine lv_iadd hx hb d_M_total_33 ?_
      refine lv_topi (fun y4 ey4 => ?_)
      have hw := hw y4 ey4
      refine lv_istore_n (lv' := [(1, .int y4), (0, .ref (h 0)), (2, .int v2)]) hx hb d_M_total_34 rfl hl (by decide) rfl (fun ls hl => ?_)
      refine lv_iinc (v := (v2 + 1)) (lv' := [(2, .int (v2 + 1)), (1, .int y4), (0, .ref (h 0))]) hx hb d_M_total_35 hl (k := 2) rfl rfl (by decide) rfl (fun ls hl => ?_)
      refine lv_goto (tgt := 9) hx hb d_M_total_38 (by decide) ?_
      exact ih u3 y4 (v2 + 1) _ _ hP hD hS ls (lv_sub hl [2, 1, 0] rfl) hw
def w_M_total (st : MS) (post : Int32 → MS → Prop) : Prop := ∃ z, w_M_total_9 post z (0, (MS.lines st), (MS.num st), (MS.cuts st), (MS.cu st), (MS.cd st), (MS.curves st), (MS.yu st), (MS.yd st), (MS.up st), (MS.down st), (MS.xu st), (MS.xd st), (MS.strip st), (MS.place st)) 0 0
set_option maxHeartbeats 4000000 in
set_option maxRecDepth 100000 in
theorem t_M_total (l : Launch) (dC : Nat → ClassId) (dI : Nat → Nat → Nat) (h : Nat → Nat) (k : Nat → ClassId) (sz : Nat) (st : MS) {post : Int32 → MS → Prop} (hw : w_M_total st post) : Met l y_M_total (Cond.code y_M_total prog_4_method_20_code 3 (some .int) :: cw) ({ frames := 4, cells := 0, slots := 0, locals := 95 } : Room) (va_Pc [.ref (h 0)] (pRw (dC, dI) (WM h k st) (YM k) sz)) (va_Qi post (fun u t => va_P (dC, dI) vwCl (WM h k u) t.heap ∧ va_D (va_A (WM h k st) sz) (WM h k u)) (va_A (WM h k st) sz)) 0 0 (va_A (WM h k st) sz) := by
  refine Met.ofW (cc := prog_4_method_20_code) (maxL := 3) (ret := (some .int)) (by decide) rfl ?_
  intro p e s m args below meth c s₁ B hml hv
  obtain ⟨rfl, hsz, hP, hK, hN, hD0⟩ := hv
  have hx := B.exec
  have hb := B.bytes
  have hr := B.returns
  have hts : ∀ w ∈ cw, w.before _ s = true := fun w h => atoms_spec (ws := (Cond.code y_M_total prog_4_method_20_code 3 (some .int) :: cw)) B.pre w (List.mem_cons_of_mem _ h)
  have hown : s.vm.findClass RM = some m.cls := findClass_of_methodNamed B.named
  have hlocks := B.notSynchronized
  have C0 : cxt p s m _ meth c prog_4_method_20_code 3 RM (some .int) := ⟨hx, hb, hr, hml, hown, hts, hlocks⟩
  subst hsz
  have hD := hD0.self (sz := s.heap.size)
  generalize hAe : va_A (WM h k st) s.heap.size = A at hD ⊢
  have hA : ∀ q : Nat, s.heap.size ≤ q → A q := fun q h => by rw [← hAe]; exact Or.inr h
  have hS : va_S A s.heap s.heap [] := va_S.rf
  have hl := lv_entry ([.ref (h 0)]) (n := 3) (Nat.le_of_ble_eq_true rfl)
  rw [lg_entry_eq]
  generalize (lg_sl ([.ref (h 0)]) ++ List.replicate (3 - (lg_sl ([.ref (h 0)])).length) Slot.unset).toArray = ls at hl ⊢
  have hl : lv_has ls 3 [(0, .ref (h 0))] := hl
  unfold w_M_total at hw
  refine lv_aload_n hx hb d_M_total_0 rfl (lv_at hl 0 rfl) ?_
  refine lv_iconst (v := 0) hx hb d_M_total_1 (by decide) ?_
  refine va_put (D := (dC, dI)) (ci := 2) (v := .int 0) (ty := .int) (C := RM) (T := TM) (N := 15) hx hb hts i_M tyM tyM_ok nmM hown hK hP hD hS 0 rfl rfl 0 (by decide) (hts _ m_376) (fun _ h9 => h9) rfl (by decide +kernel) rfl rfl (Nat.le_of_ble_eq_true rfl) d_M_total_2 (fun H locs hP hD hS => ?_)
  have hP : va_P (dC, dI) vwCl [(h 0, .inr (2, [.int 0, .int (MS.lines st), .ref (h 1), .int (MS.cuts st), .ref (h 2), .ref (h 3), .int (MS.curves st), .ref (h 4), .ref (h 5), .long (MS.up st), .long (MS.down st), .long (MS.xu st), .long (MS.xd st), .int (MS.strip st), .int (MS.place st)])), (h 1, .inl (k 1, 18, .inl (MS.num st))), (h 2, .inl (k 2, 24, .inr (.inl (MS.cu st)))), (h 3, .inl (k 3, 24, .inr (.inl (MS.cd st)))), (h 4, .inl (k 4, 6, .inr (.inl (MS.yu st)))), (h 5, .inl (k 5, 6, .inr (.inl (MS.yd st))))] H := hP
  have hD : va_D A [(h 0, .inr (2, [.int 0, .int (MS.lines st), .ref (h 1), .int (MS.cuts st), .ref (h 2), .ref (h 3), .int (MS.curves st), .ref (h 4), .ref (h 5), .long (MS.up st), .long (MS.down st), .long (MS.xu st), .long (MS.xd st), .int (MS.strip st), .int (MS.place st)])), (h 1, .inl (k 1, 18, .inl (MS.num st))), (h 2, .inl (k 2, 24, .inr (.inl (MS.cu st)))), (h 3, .inl (k 3, 24, .inr (.inl (MS.cd st)))), (h 4, .inl (k 4, 6, .inr (.inl (MS.yu st)))), (h 5, .inl (k 5, 6, .inr (.inl (MS.yd st))))] := hD
  refine lv_iconst (v := 0) hx hb d_M_total_5 (by decide) ?_
  refine lv_istore_n (lv' := [(1, .int 0), (0, .ref (h 0))]) hx hb d_M_total_6 rfl hl (by decide) rfl (fun ls hl => ?_)
  refine lv_iconst (v := 0) hx hb d_M_total_7 (by decide) ?_
  refine lv_istore_n (lv' := [(2, .int 0), (1, .int 0), (0, .ref (h 0))]) hx hb d_M_total_8 rfl hl (by decide) rfl (fun ls hl => ?_)
  have hP : va_P (dC, dI) vwCl (WM h k (0, (MS.lines st), (MS.num st), (MS.cuts st), (MS.cu st), (MS.cd st), (MS.curves st), (MS.yu st), (MS.yd st), (MS.up st), (MS.down st), (MS.xu st), (MS.xd st), (MS.strip st), (MS.place st))) _ := hP
  have hD : va_D A (WM h k (0, (MS.lines st), (MS.num st), (MS.cuts st), (MS.cu st), (MS.cd st), (MS.curves st), (MS.yu st), (MS.yd st), (MS.up st), (MS.down st), (MS.xu st), (MS.xd st), (MS.strip st), (MS.place st))) := hD
  obtain ⟨n1, hw⟩ := hw
  exact k_M_total_9 C0 hK hN hA n1 (0, (MS.lines st), (MS.num st), (MS.cuts st), (MS.cu st), (MS.cd st), (MS.curves st), (MS.yu st), (MS.yd st), (MS.up st), (MS.down st), (MS.xu st), (MS.xd st), (MS.strip st), (MS.place st)) 0 0 _ _ hP hD hS ls (lv_sub hl [2, 1, 0] rfl) hw
