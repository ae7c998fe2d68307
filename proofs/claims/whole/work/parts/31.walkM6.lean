def w_M_touch (st : MS) (post : Int32 → MS → Prop) (p0 : Int32) (p1 : Int32) : Prop := w_M_isCell st (fun r2 u1 => ((r2 = 0 → (post 0 (1, (MS.lines u1), (MS.num u1), (MS.cuts u1), (MS.cu u1), (MS.cd u1), (MS.curves u1), (MS.yu u1), (MS.yd u1), (MS.up u1), (MS.down u1), (MS.xu u1), (MS.xd u1), (MS.strip u1), (MS.place u1)))) ∧ (¬ r2 = 0 → (w_M_isCell u1 (fun r5 u4 => ((r5 = 0 → (post 0 (1, (MS.lines u4), (MS.num u4), (MS.cuts u4), (MS.cu u4), (MS.cd u4), (MS.curves u4), (MS.yu u4), (MS.yd u4), (MS.up u4), (MS.down u4), (MS.xu u4), (MS.xd u4), (MS.strip u4), (MS.place u4)))) ∧ (¬ r5 = 0 → (∀ y7 : Int32, y7 = (MS.strip u4) → (∀ y8 : Int32, y8 = (MS.place u4) → (w_M_isCell (0, (MS.lines u4), (MS.num u4), (MS.cuts u4), (MS.cu u4), (MS.cd u4), (MS.curves u4), (MS.yu u4), (MS.yd u4), (MS.up u4), (MS.down u4), (MS.xu u4), (MS.xd u4), (MS.strip u4), (MS.place u4)) (fun r10 u9 => (∀ y11 : Int32, y11 = (MS.strip u9) → (∀ y12 : Int32, y12 = (MS.place u9) → ((¬ y11 = y7 → (w_M_in (fun r14 => ((¬ r14 = 0 → ((¬ (y11 - y11 / 2 * 2) = 1 → ((¬ (y12 - y12 / 2 * 2) = 1 → (w_M_ends u9 (fun r19 u18 => (w_M_ends u18 (fun r21 u20 => ((y8 < ((2 * r19) + 1) → (post 0 u20)) ∧ (¬ y8 < ((2 * r19) + 1) → ((((2 * r21) + 1) < y8 → (post 0 u20)) ∧ (¬ ((2 * r21) + 1) < y8 → (post 1 u20)))))) y11 (y12 / 2) y7)) y11 ((y12 / 2) - 1) y7)) ∧ ((y12 - y12 / 2 * 2) = 1 → (w_M_ends u9 (fun r25 u24 => ((¬ y8 = ((2 * r25) + 1) → (post 0 u24)) ∧ (y8 = ((2 * r25) + 1) → (post 1 u24)))) y11 (y12 / 2) y7)))) ∧ ((y11 - y11 / 2 * 2) = 1 → ((¬ (y8 - y8 / 2 * 2) = 1 → (w_M_ends u9 (fun r29 u28 => (w_M_ends u28 (fun r31 u30 => ((y12 < ((2 * r29) + 1) → (post 0 u30)) ∧ (¬ y12 < ((2 * r29) + 1) → ((((2 * r31) + 1) < y12 → (post 0 u30)) ∧ (¬ ((2 * r31) + 1) < y12 → (post 1 u30)))))) y7 (y8 / 2) y11)) y7 ((y8 / 2) - 1) y11)) ∧ ((y8 - y8 / 2 * 2) = 1 → (w_M_ends u9 (fun r35 u34 => ((¬ y12 = ((2 * r35) + 1) → (post 0 u34)) ∧ (y12 = ((2 * r35) + 1) → (post 1 u34)))) y7 (y8 / 2) y11)))))) ∧ (r14 = 0 → (post 0 u9)))) ((y11 - y7).toInt64) ((-1) : Int64) (1 : Int64))) ∧ (y11 = y7 → (w_M_in (fun r37 => (narrow .boolean (.int r37) = .int r37 ∧ post r37 u9)) ((y12 - y8).toInt64) ((-1) : Int64) (1 : Int64))))))) p0)))))) p1)))) p0
set_option maxHeartbeats 4000000 in
set_option maxRecDepth 100000 in
theorem t_M_touch (l : Launch) (dC : Nat → ClassId) (dI : Nat → Nat → Nat) (h : Nat → Nat) (k : Nat → ClassId) (sz : Nat) (st : MS) (p0 : Int32) (p1 : Int32) {post : Int32 → MS → Prop} (hw : w_M_touch st post p0 p1) : Met l y_M_touch (Cond.code y_M_touch prog_4_method_32_code 13 (some .boolean) :: cw) ({ frames := 6, cells := 0, slots := 0, locals := 143 } : Room) (va_Pc [.ref (h 0), .int p0, .int p1] (pRw (dC, dI) (WM h k st) (YM k) sz)) (va_Qi post (fun u t => va_P (dC, dI) vwCl (WM h k u) t.heap ∧ va_D (va_A (WM h k st) sz) (WM h k u)) (va_A (WM h k st) sz)) 0 0 (va_A (WM h k st) sz) := by
  refine Met.ofW (cc := prog_4_method_32_code) (maxL := 13) (ret := (some .boolean)) (by decide) rfl ?_
  intro p e s m args below meth c s₁ B hml hv
  obtain ⟨rfl, hsz, hP, hK, hN, hD0⟩ := hv
  have hx := B.exec
  have hb := B.bytes
  have hr := B.returns
  have hts : ∀ w ∈ cw, w.before _ s = true := fun w h => atoms_spec (ws := (Cond.code y_M_touch prog_4_method_32_code 13 (some .boolean) :: cw)) B.pre w (List.mem_cons_of_mem _ h)
  have hown : s.vm.findClass RM = some m.cls := findClass_of_methodNamed B.named
  have hlocks := B.notSynchronized
  have C0 : cxt p s m _ meth c prog_4_method_32_code 13 RM (some .boolean) := ⟨hx, hb, hr, hml, hown, hts, hlocks⟩
  subst hsz
  have hD := hD0.self (sz := s.heap.size)
  generalize hAe : va_A (WM h k st) s.heap.size = A at hD ⊢
  have hA : ∀ q : Nat, s.heap.size ≤ q → A q := fun q h => by rw [← hAe]; exact Or.inr h
  have hS : va_S A s.heap s.heap [] := va_S.rf
  have hl := lv_entry ([.ref (h 0), .int p0, .int p1]) (n := 13) (Nat.le_of_ble_eq_true rfl)
  rw [lg_entry_eq]
  generalize (lg_sl ([.ref (h 0), .int p0, .int p1]) ++ List.replicate (13 - (lg_sl ([.ref (h 0), .int p0, .int p1])).length) Slot.unset).toArray = ls at hl ⊢
  have hl : lv_has ls 13 [(0, .ref (h 0)), (1, .int p0), (2, .int p1)] := hl
  unfold w_M_touch at hw
  refine lv_aload_n hx hb d_M_touch_0 rfl (lv_at hl 0 rfl) ?_
  refine lv_aload_n hx hb d_M_touch_1 rfl (lv_at hl 0 rfl) ?_
  refine lv_iload_n hx hb d_M_touch_2 rfl (lv_at hl 1 rfl) ?_
  have hFc := va_freeA hD hS hA
  refine va_calli (va_runV (As := [.int p0]) (rest := [.ref (h 0)]) ⟨hx, hb, hml, hown, hts⟩ (t_M_isCell l dC dI h k _ st p0 hw) (cwV 1 hts (gV m_496 m_498 s_24 m_5 (cw_call m_499)) rfl rfl rfl (by decide +kernel) ⟨Nat.le_of_ble_eq_true rfl, Nat.le_of_ble_eq_true rfl⟩) ⟨pRw_bl, va_recv hK hP (ci := 2) (q0 := 0) rfl rfl, fun U hU hW => ⟨rfl, pRw_at hP hK hN hD hU hW⟩⟩ rfl rfl hl.1 rfl (lv_room (Nat.le_of_ble_eq_true rfl)) d_M_touch_3 ⟨Nat.le_of_ble_eq_true rfl, Nat.le_of_ble_eq_true rfl⟩) hS (fun q _ h => hFc q h) hFc (fun r2 u1 t H1 locs ht hvm hw hB hz1 hk1 hS => ?_)
  obtain ⟨hP1, hD1⟩ := hB
  rw [ht] at hP1
  have hP := hP1
  have hD := hD1.weaken (fun _ q _ h => hFc q.1 h)
  generalize H1 = H at hP hS ⊢
  have hP : va_P (dC, dI) vwCl (WM h k u1) H := hP
  have hD : va_D A (WM h k u1) := hD
  refine lv_if_eq (tgt := 21) hx hb d_M_touch_6 (by decide) (fun c3 => ?_) (fun c3 => ?_)
  · skip
    have hw := hw.1 c3
    refine lv_iconst (v := 1) hx hb d_M_touch_21 (by decide) ?_
    refine va_put (D := (dC, dI)) (ci := 2) (v := .int 1) (ty := .int) (C := RM) (T := TM) (N := 15) hx hb hts i_M tyM tyM_ok nmM hown hK hP hD hS 0 rfl rfl 0 (by decide) (hts _ m_376) (fun _ h9 => h9) rfl (by decide +kernel) rfl rfl (Nat.le_of_ble_eq_true rfl) d_M_touch_22 (fun H locs hP hD hS => ?_)
    have hP : va_P (dC, dI) vwCl [(h 0, .inr (2, [.int 1, .int (MS.lines u1), .ref (h 1), .int (MS.cuts u1), .ref (h 2), .ref (h 3), .int (MS.curves u1), .ref (h 4), .ref (h 5), .long (MS.up u1), .long (MS.down u1), .long (MS.xu u1), .long (MS.xd u1), .int (MS.strip u1), .int (MS.place u1)])), (h 1, .inl (k 1, 18, .inl (MS.num u1))), (h 2, .inl (k 2, 24, .inr (.inl (MS.cu u1)))), (h 3, .inl (k 3, 24, .inr (.inl (MS.cd u1)))), (h 4, .inl (k 4, 6, .inr (.inl (MS.yu u1)))), (h 5, .inl (k 5, 6, .inr (.inl (MS.yd u1))))] H := hP
    have hD : va_D A [(h 0, .inr (2, [.int 1, .int (MS.lines u1), .ref (h 1), .int (MS.cuts u1), .ref (h 2), .ref (h 3), .int (MS.curves u1), .ref (h 4), .ref (h 5), .long (MS.up u1), .long (MS.down u1), .long (MS.xu u1), .long (MS.xd u1), .int (MS.strip u1), .int (MS.place u1)])), (h 1, .inl (k 1, 18, .inl (MS.num u1))), (h 2, .inl (k 2, 24, .inr (.inl (MS.cu u1)))), (h 3, .inl (k 3, 24, .inr (.inl (MS.cd u1)))), (h 4, .inl (k 4, 6, .inr (.inl (MS.yu u1)))), (h 5, .inl (k 5, 6, .inr (.inl (MS.yd u1))))] := hD
    refine lv_aload_n hx hb d_M_touch_25 rfl (lv_at hl 0 rfl) ?_
    refine va_get (D := (dC, dI)) (ci := 2) (v := .int 1) (C := RM) (T := TM) (N := 15) hx hb hts i_M hown hK hP 0 rfl rfl 0 (by decide) (hts _ m_376) (fun _ h9 => h9) rfl d_M_touch_26 ?_
    refine lv_if_le (tgt := 34) hx hb d_M_touch_29 (by decide) (fun cz => absurd cz (by decide)) (fun _ => ?_)
    refine lv_iconst (v := 0) hx hb d_M_touch_32 (by decide) ?_
    have hP : va_P (dC, dI) vwCl (WM h k (1, (MS.lines u1), (MS.num u1), (MS.cuts u1), (MS.cu u1), (MS.cd u1), (MS.curves u1), (MS.yu u1), (MS.yd u1), (MS.up u1), (MS.down u1), (MS.xu u1), (MS.xd u1), (MS.strip u1), (MS.place u1))) _ := hP
    have hD : va_D A (WM h k (1, (MS.lines u1), (MS.num u1), (MS.cuts u1), (MS.cu u1), (MS.cd u1), (MS.curves u1), (MS.yu u1), (MS.yd u1), (MS.up u1), (MS.down u1), (MS.xu u1), (MS.xd u1), (MS.strip u1), (MS.place u1))) := hD
    exact W.zret (v := 0) hx hb hr rfl (fun t ht hW => ⟨⟨0, (1, (MS.lines u1), (MS.num u1), (MS.cuts u1), (MS.cu u1), (MS.cd u1), (MS.curves u1), (MS.yu u1), (MS.yd u1), (MS.up u1), (MS.down u1), (MS.xu u1), (MS.xd u1), (MS.strip u1), (MS.place u1)), rfl, hw, by rw [ht]; exact hP, hD⟩, hS.F ht⟩) hS.2.2 d_M_touch_33
  · skip
    have hw := hw.2 c3
    refine lv_aload_n hx hb d_M_touch_9 rfl (lv_at hl 0 rfl) ?_
    refine lv_iload_n hx hb d_M_touch_10 rfl (lv_at hl 2 rfl) ?_
    have hFc := va_freeA hD hS hA
    refine va_calli (va_runV (As := [.int p1]) (rest := [.ref (h 0)]) ⟨hx, hb, hml, hown, hts⟩ (t_M_isCell l dC dI h k _ u1 p1 hw) (cwV 1 hts (gV m_496 m_498 s_24 m_5 (cw_call m_499)) rfl rfl rfl (by decide +kernel) ⟨Nat.le_of_ble_eq_true rfl, Nat.le_of_ble_eq_true rfl⟩) ⟨pRw_bl, va_recv hK hP (ci := 2) (q0 := 0) rfl rfl, fun U hU hW => ⟨rfl, pRw_at hP hK hN hD hU hW⟩⟩ rfl rfl hl.1 rfl (lv_room (Nat.le_of_ble_eq_true rfl)) d_M_touch_11 ⟨Nat.le_of_ble_eq_true rfl, Nat.le_of_ble_eq_true rfl⟩) hS (fun q _ h => hFc q h) hFc (fun r5 u4 t H1 locs ht hvm hw hB hz1 hk1 hS => ?_)
    obtain ⟨hP1, hD1⟩ := hB
    rw [ht] at hP1
    have hP := hP1
    have hD := hD1.weaken (fun _ q _ h => hFc q.1 h)
    generalize H1 = H at hP hS ⊢
    have hP : va_P (dC, dI) vwCl (WM h k u4) H := hP
    have hD : va_D A (WM h k u4) := hD
    refine lv_if_eq (tgt := 21) hx hb d_M_touch_14 (by decide) (fun c6 => ?_) (fun c6 => ?_)
    · skip
      have hw := hw.1 c6
      refine lv_iconst (v := 1) hx hb d_M_touch_21 (by decide) ?_
      refine va_put (D := (dC, dI)) (ci := 2) (v := .int 1) (ty := .int) (C := RM) (T := TM) (N := 15) hx hb hts i_M tyM tyM_ok nmM hown hK hP hD hS 0 rfl rfl 0 (by decide) (hts _ m_376) (fun _ h9 => h9) rfl (by decide +kernel) rfl rfl (Nat.le_of_ble_eq_true rfl) d_M_touch_22 (fun H locs hP hD hS => ?_)
      have hP : va_P (dC, dI) vwCl [(h 0, .inr (2, [.int 1, .int (MS.lines u4), .ref (h 1), .int (MS.cuts u4), .ref (h 2), .ref (h 3), .int (MS.curves u4), .ref (h 4), .ref (h 5), .long (MS.up u4), .long (MS.down u4), .long (MS.xu u4), .long (MS.xd u4), .int (MS.strip u4), .int (MS.place u4)])), (h 1, .inl (k 1, 18, .inl (MS.num u4))), (h 2, .inl (k 2, 24, .inr (.inl (MS.cu u4)))), (h 3, .inl (k 3, 24, .inr (.inl (MS.cd u4)))), (h 4, .inl (k 4, 6, .inr (.inl (MS.yu u4)))), (h 5, .inl (k 5, 6, .inr (.inl (MS.yd u4))))] H := hP
      have hD : va_D A [(h 0, .inr (2, [.int 1, .int (MS.lines u4), .ref (h 1), .int (MS.cuts u4), .ref (h 2), .ref (h 3), .int (MS.curves u4), .ref (h 4), .ref (h 5), .long (MS.up u4), .long (MS.down u4), .long (MS.xu u4), .long (MS.xd u4), .int (MS.strip u4), .int (MS.place u4)])), (h 1, .inl (k 1, 18, .inl (MS.num u4))), (h 2, .inl (k 2, 24, .inr (.inl (MS.cu u4)))), (h 3, .inl (k 3, 24, .inr (.inl (MS.cd u4)))), (h 4, .inl (k 4, 6, .inr (.inl (MS.yu u4)))), (h 5, .inl (k 5, 6, .inr (.inl (MS.yd u4))))] := hD
      refine lv_aload_n hx hb d_M_touch_25 rfl (lv_at hl 0 rfl) ?_
      refine va_get (D := (dC, dI)) (ci := 2) (v := .int 1) (C := RM) (T := TM) (N := 15) hx hb hts i_M hown hK hP 0 rfl rfl 0 (by decide) (hts _ m_376) (fun _ h9 => h9) rfl d_M_touch_26 ?_
      refine lv_if_le (tgt := 34) hx hb d_M_touch_29 (by decide) (fun cz => absurd cz (by decide)) (fun _ => ?_)
      refine lv_iconst (v := 0) hx hb d_M_touch_32 (by decide) ?_
      have hP : va_P (dC, dI) vwCl (WM h k (1, (MS.lines u4), (MS.num u4), (MS.cuts u4), (MS.cu u4), (MS.cd u4), (MS.curves u4), (MS.yu u4), (MS.yd u4), (MS.up u4), (MS.down u4), (MS.xu u4), (MS.xd u4), (MS.strip u4), (MS.place u4))) _ := hP
      have hD : va_D A (WM h k (1, (MS.lines u4), (MS.num u4), (MS.cuts u4), (MS.cu u4), (MS.cd u4), (MS.curves u4), (MS.yu u4), (MS.yd u4), (MS.up u4), (MS.down u4), (MS.xu u4), (MS.xd u4), (MS.strip u4), (MS.place u4))) := hD
      exact W.zret (v := 0) hx hb hr rfl (fun t ht hW => ⟨⟨0, (1, (MS.lines u4), (MS.num u4), (MS.cuts u4), (MS.cu u4), (MS.cd u4), (MS.curves u4), (MS.yu u4), (MS.yd u4), (MS.up u4), (MS.down u4), (MS.xu u4), (MS.xd u4), (MS.strip u4), (MS.place u4)), rfl, hw, by rw [ht]; exact hP, hD⟩, hS.F ht⟩) hS.2.2 d_M_touch_33
    · skip
      have hw := hw.2 c6
      refine lv_iconst (v := 0) hx hb d_M_touch_17 (by decide) ?_
      refine lv_goto (tgt := 22) hx hb d_M_touch_18 (by decide) ?_
      refine va_put (D := (dC, dI)) (ci := 2) (v := .int 0) (ty := .int) (C := RM) (T := TM) (N := 15) hx hb hts i_M tyM tyM_ok nmM hown hK hP hD hS 0 rfl rfl 0 (by decide) (hts _ m_376) (fun _ h9 => h9) rfl (by decide +kernel) rfl rfl (Nat.le_of_ble_eq_true rfl) d_M_touch_22 (fun H locs hP hD hS => ?_)
      have hP : va_P (dC, dI) vwCl [(h 0, .inr (2, [.int 0, .int (MS.lines u4), .ref (h 1), .int (MS.cuts u4), .ref (h 2), .ref (h 3), .int (MS.curves u4), .ref (h 4), .ref (h 5), .long (MS.up u4), .long (MS.down u4), .long (MS.xu u4), .long (MS.xd u4), .int (MS.strip u4), .int (MS.place u4)])), (h 1, .inl (k 1, 18, .inl (MS.num u4))), (h 2, .inl (k 2, 24, .inr (.inl (MS.cu u4)))), (h 3, .inl (k 3, 24, .inr (.inl (MS.cd u4)))), (h 4, .inl (k 4, 6, .inr (.inl (MS.yu u4)))), (h 5, .inl (k 5, 6, .inr (.inl (MS.yd u4))))] H := hP
      have hD : va_D A [(h 0, .inr (2, [.int 0, .int (MS.lines u4), .ref (h 1), .int (MS.cuts u4), .ref (h 2), .ref (h 3), .int (MS.curves u4), .ref (h 4), .ref (h 5), .long (MS.up u4), .long (MS.down u4), .long (MS.xu u4), .long (MS.xd u4), .int (MS.strip u4), .int (MS.place u4)])), (h 1, .inl (k 1, 18, .inl (MS.num u4))), (h 2, .inl (k 2, 24, .inr (.inl (MS.cu u4)))), (h 3, .inl (k 3, 24, .inr (.inl (MS.cd u4)))), (h 4, .inl (k 4, 6, .inr (.inl (MS.yu u4)))), (h 5, .inl (k 5, 6, .inr (.inl (MS.yd u4))))] := hD
      refine lv_aload_n hx hb d_M_touch_25 rfl (lv_at hl 0 rfl) ?_
      refine va_get (D := (dC, dI)) (ci := 2) (v := .int 0) (C := RM) (T := TM) (N := 15) hx hb hts i_M hown hK hP 0 rfl rfl 0 (by decide) (hts _ m_376) (fun _ h9 => h9) rfl d_M_touch_26 ?_
      refine lv_if_le (tgt := 34) hx hb d_M_touch_29 (by decide) (fun _ => ?_) (fun cz => absurd (by decide) cz)
      refine lv_aload_n hx hb d_M_touch_34 rfl (lv_at hl 0 rfl) ?_
      refine va_get (D := (dC, dI)) (ci := 2) (v := .int (MS.strip u4)) (C := RM) (T := TM) (N := 15) hx hb hts i_M hown hK hP 0 rfl rfl 13 (by decide) (hts _ m_389) (fun _ h9 => h9) rfl d_M_touch_35 ?_
      refine lv_topi (fun y7 ey7 => ?_)
      have hw := hw y7 ey7
      refine lv_istore_n (lv' := [(3, .int y7), (0, .ref (h 0)), (1, .int p0), (2, .int p1)]) hx hb d_M_touch_38 rfl hl (by decide) rfl (fun ls hl => ?_)
      refine lv_aload_n hx hb d_M_touch_39 rfl (lv_at hl 1 rfl) ?_
      refine va_get (D := (dC, dI)) (ci := 2) (v := .int (MS.place u4)) (C := RM) (T := TM) (N := 15) hx hb hts i_M hown hK hP 0 rfl rfl 14 (by decide) (hts _ m_390) (fun _ h9 => h9) rfl d_M_touch_40 ?_
      refine lv_topi (fun y8 ey8 => ?_)
      have hw := hw y8 ey8
      refine lv_istore (lv' := [(4, .int y8), (3, .int y7), (0, .ref (h 0)), (1, .int p0), (2, .int p1)]) hx hb d_M_touch_43 hl (by decide) rfl (fun ls hl => ?_)
      refine lv_aload_n hx hb d_M_touch_45 rfl (lv_at hl 2 rfl) ?_
      refine lv_iload_n hx hb d_M_touch_46 rfl (lv_at hl 3 rfl) ?_
      have hP : va_P (dC, dI) vwCl (WM h k (0, (MS.lines u4), (MS.num u4), (MS.cuts u4), (MS.cu u4), (MS.cd u4), (MS.curves u4), (MS.yu u4), (MS.yd u4), (MS.up u4), (MS.down u4), (MS.xu u4), (MS.xd u4), (MS.strip u4), (MS.place u4))) _ := hP
      have hD : va_D A (WM h k (0, (MS.lines u4), (MS.num u4), (MS.cuts u4), (MS.cu u4), (MS.cd u4), (MS.curves u4), (MS.yu u4), (MS.yd u4), (MS.up u4), (MS.down u4), (MS.xu u4), (MS.xd u4), (MS.strip u4), (MS.place u4))) := hD
      have hFc := va_freeA hD hS hA
      refine va_calli (va_runV (As := [.int p0]) (rest := []) ⟨hx, hb, hml, hown, hts⟩ (t_M_isCell l dC dI h k _ (0, (MS.lines u4), (MS.num u4), (MS.cuts u4), (MS.cu u4), (MS.cd u4), (MS.curves u4), (MS.yu u4), (MS.yd u4), (MS.up u4), (MS.down u4), (MS.xu u4), (MS.xd u4), (MS.strip u4), (MS.place u4)) p0 hw) (cwV 1 hts (gV m_496 m_498 s_24 m_5 (cw_call m_499)) rfl rfl rfl (by decide +kernel) ⟨Nat.le_of_ble_eq_true rfl, Nat.le_of_ble_eq_true rfl⟩) ⟨pRw_bl, va_recv hK hP (ci := 2) (q0 := 0) rfl rfl, fun U hU hW => ⟨rfl, pRw_at hP hK hN hD hU hW⟩⟩ rfl rfl hl.1 rfl (lv_room (Nat.le_of_ble_eq_true rfl)) d_M_touch_47 ⟨Nat.le_of_ble_eq_true rfl, Nat.le_of_ble_eq_true rfl⟩) hS (fun q _ h => hFc q h) hFc (fun r10 u9 t H1 locs ht hvm hw hB hz1 hk1 hS => ?_)
      obtain ⟨hP1, hD1⟩ := hB
      rw [ht] at hP1
      have hP := hP1
      have hD := hD1.weaken (fun _ q _ h => hFc q.1 h)
      generalize H1 = H at hP hS ⊢
      have hP : va_P (dC, dI) vwCl (WM h k u9) H := hP
      have hD : va_D A (WM h k u9) := hD
      refine lv_pop hx hb d_M_touch_50 rfl ?_
      refine lv_aload_n hx hb d_M_touch_51 rfl (lv_at hl 2 rfl) ?_
      refine va_get (D := (dC, dI)) (ci := 2) (v := .int (MS.strip u9)) (C := RM) (T := TM) (N := 15) hx hb hts i_M hown hK hP 0 rfl rfl 13 (by decide) (hts _ m_389) (fun _ h9 => h9) rfl d_M_touch_52 ?_
      refine lv_topi (fun y11 ey11 => ?_)
      have hw := hw y11 ey11
      refine lv_istore (lv' := [(5, .int y11), (4, .int y8), (3, .int y7), (0, .ref (h 0)), (1, .int p0), (2, .int p1)]) hx hb d_M_touch_55 hl (by decide) rfl (fun ls hl => ?_)
      refine lv_aload_n hx hb d_M_touch_57 rfl (lv_at hl 3 rfl) ?_
      refine va_get (D := (dC, dI)) (ci := 2) (v := .int (MS.place u9)) (C := RM) (T := TM) (N := 15) hx hb hts i_M hown hK hP 0 rfl rfl 14 (by decide) (hts _ m_390) (fun _ h9 => h9) rfl d_M_touch_58 ?_
      refine lv_topi (fun y12 ey12 => ?_)
      have hw := hw y12 ey12
      refine lv_istore (lv' := [(6, .int y12), (5, .int y11), (4, .int y8), (3, .int y7), (0, .ref (h 0)), (1, .int p0), (2, .int p1)]) hx hb d_M_touch_61 hl (by decide) rfl (fun ls hl => ?_)
      refine lv_iload hx hb d_M_touch_63 (lv_at hl 1 rfl) ?_
      refine lv_iload_n hx hb d_M_touch_65 rfl (lv_at hl 3 rfl) ?_
      refine lv_icmp_ne (tgt := 83) hx hb d_M_touch_66 (by decide) (fun c13 => ?_) (fun c13 => ?_)
      · skip
        have hw := hw.1 c13
        refine lv_iload hx hb d_M_touch_83 (lv_at hl 1 rfl) ?_
        refine lv_iload_n hx hb d_M_touch_85 rfl (lv_at hl 3 rfl) ?_
        refine lv_isub hx hb d_M_touch_86 ?_
        refine lv_i2l (v := (y11 - y7).toInt64) hx hb d_M_touch_87 rfl ?_
        refine lv_ldc2 (v := (-1)) hx hb hown (hts _ m_538) d_M_touch_88 ?_
        refine lv_lconst (v := 1) hx hb d_M_touch_91 (by decide) ?_
        refine vp_callSi (va_Run.run (va_runS (As := [.long ((y11 - y7).toInt64), .long (-1), .long 1]) (rest := []) ⟨hx, hb, hml, hown, hts⟩ (t_M_in l ((y11 - y7).toInt64) ((-1) : Int64) (1 : Int64) hw) (va_cwS 3 hts (gS m_432 m_433 m_5 (cw_call m_434)) rfl rfl rfl (by decide +kernel) ⟨Nat.le_of_ble_eq_true rfl, Nat.le_of_ble_eq_true rfl⟩) ⟨pSt_bl, fun U hU hW => ⟨rfl, trivial⟩⟩ rfl rfl hl.1 rfl (lv_room (Nat.le_of_ble_eq_true rfl)) d_M_touch_92 ⟨Nat.le_of_ble_eq_true rfl, Nat.le_of_ble_eq_true rfl⟩)) (fun r14 hw => ?_)
        refine lv_if_ne (tgt := 100) hx hb d_M_touch_95 (by decide) (fun c15 => ?_) (fun c15 => ?_)
        · skip
          have hw := hw.1 c15
          refine lv_iload hx hb d_M_touch_100 (lv_at hl 1 rfl) ?_
          refine lv_iconst (v := 2) hx hb d_M_touch_102 (by decide) ?_
          refine lv_irem hx hb d_M_touch_103 (by decide) ?_
          refine lv_iconst (v := 1) hx hb d_M_touch_104 (by decide) ?_
          refine lv_icmp_ne (tgt := 113) hx hb d_M_touch_105 (by decide) (fun c16 => ?_) (fun c16 => ?_)
          · skip
            have hw := hw.1 c16
            refine lv_iload_n hx hb d_M_touch_113 rfl (lv_at hl 3 rfl) ?_
            refine lv_istore (lv' := [(7, .int y7), (6, .int y12), (5, .int y11), (4, .int y8), (3, .int y7), (0, .ref (h 0)), (1, .int p0), (2, .int p1)]) hx hb d_M_touch_114 hl (by decide) rfl (fun ls hl => ?_)
            refine lv_iload hx hb d_M_touch_116 (lv_at hl 2 rfl) ?_
            refine lv_iconst (v := 2) hx hb d_M_touch_118 (by decide) ?_
            refine lv_irem hx hb d_M_touch_119 (by decide) ?_
            refine lv_iconst (v := 1) hx hb d_M_touch_120 (by decide) ?_
            refine lv_icmp_ne (tgt := 129) hx hb d_M_touch_121 (by decide) (fun _ => ?_) (fun cz => absurd cz c16)
            refine lv_iload hx hb d_M_touch_129 (lv_at hl 3 rfl) ?_
            refine lv_istore (lv' := [(8, .int y8), (7, .int y7), (6, .int y12), (5, .int y11), (4, .int y8), (3, .int y7), (0, .ref (h 0)), (1, .int p0), (2, .int p1)]) hx hb d_M_touch_131 hl (by decide) rfl (fun ls hl => ?_)
            refine lv_iload hx hb d_M_touch_133 (lv_at hl 3 rfl) ?_
            refine lv_iconst (v := 2) hx hb d_M_touch_135 (by decide) ?_
            refine lv_irem hx hb d_M_touch_136 (by decide) ?_
            refine lv_iconst (v := 1) hx hb d_M_touch_137 (by decide) ?_
            refine lv_icmp_ne (tgt := 145) hx hb d_M_touch_138 (by decide) (fun _ => ?_) (fun cz => absurd cz c16)
            refine lv_iload hx hb d_M_touch_145 (lv_at hl 3 rfl) ?_
            refine lv_istore (lv' := [(9, .int y11), (8, .int y8), (7, .int y7), (6, .int y12), (5, .int y11), (4, .int y8), (3, .int y7), (0, .ref (h 0)), (1, .int p0), (2, .int p1)]) hx hb d_M_touch_147 hl (by decide) rfl (fun ls hl => ?_)
            refine lv_iload hx hb d_M_touch_149 (lv_at hl 4 rfl) ?_
            refine lv_iconst (v := 2) hx hb d_M_touch_151 (by decide) ?_
            refine lv_irem hx hb d_M_touch_152 (by decide) ?_
            refine lv_iconst (v := 1) hx hb d_M_touch_153 (by decide) ?_
            refine lv_icmp_ne (tgt := 162) hx hb d_M_touch_154 (by decide) (fun _ => ?_) (fun cz => absurd cz c16)
            refine lv_iload hx hb d_M_touch_162 (lv_at hl 3 rfl) ?_
            refine lv_istore (lv' := [(10, .int y12), (9, .int y11), (8, .int y8), (7, .int y7), (6, .int y12), (5, .int y11), (4, .int y8), (3, .int y7), (0, .ref (h 0)), (1, .int p0), (2, .int p1)]) hx hb d_M_touch_164 hl (by decide) rfl (fun ls hl => ?_)
            refine lv_iload hx hb d_M_touch_166 (lv_at hl 0 rfl) ?_
            refine lv_iconst (v := 2) hx hb d_M_touch_168 (by decide) ?_
            refine lv_irem hx hb d_M_touch_169 (by decide) ?_
            refine lv_iconst (v := 1) hx hb d_M_touch_170 (by decide) ?_
            refine lv_icmp_ne (tgt := 201) hx hb d_M_touch_171 (by decide) (fun c17 => ?_) (fun c17 => ?_)
            · skip
              have hw := hw.1 c17
              refine lv_aload_n hx hb d_M_touch_201 rfl (lv_at hl 8 rfl) ?_
              refine lv_iload hx hb d_M_touch_202 (lv_at hl 1 rfl) ?_
              refine lv_iload hx hb d_M_touch_204 (lv_at hl 0 rfl) ?_
              refine lv_iconst (v := 2) hx hb d_M_touch_206 (by decide) ?_
              refine lv_idiv hx hb d_M_touch_207 (by decide) ?_
              refine lv_iconst (v := 1) hx hb d_M_touch_208 (by decide) ?_
              refine lv_isub hx hb d_M_touch_209 ?_
              refine lv_iload hx hb d_M_touch_210 (lv_at hl 3 rfl) ?_
              have hFc := va_freeA hD hS hA
              refine va_calli (va_runV (As := [.int y11, .int ((y12 / 2) - 1), .int y7]) (rest := []) ⟨hx, hb, hml, hown, hts⟩ (t_M_ends l dC dI h k _ u9 y11 ((y12 / 2) - 1) y7 hw) (cwV 3 hts (gV m_539 m_541 s_29 m_5 (cw_call m_542)) rfl rfl rfl (by decide +kernel) ⟨Nat.le_of_ble_eq_true rfl, Nat.le_of_ble_eq_true rfl⟩) ⟨pRw_bl, va_recv hK hP (ci := 2) (q0 := 0) rfl rfl, fun U hU hW => ⟨rfl, pRw_at hP hK hN hD hU hW⟩⟩ rfl rfl hl.1 rfl (lv_room (Nat.le_of_ble_eq_true rfl)) d_M_touch_212 ⟨Nat.le_of_ble_eq_true rfl, Nat.le_of_ble_eq_true rfl⟩) hS (fun q _ h => hFc q h) hFc (fun r19 u18 t H1 locs ht hvm hw hB hz1 hk1 hS => ?_)
              obtain ⟨hP1, hD1⟩ := hB
              rw [ht] at hP1
              have hP := hP1
              have hD := hD1.weaken (fun _ q _ h => hFc q.1 h)
              generalize H1 = H at hP hS ⊢
              have hP : va_P (dC, dI) vwCl (WM h k u18) H := hP
              have hD : va_D A (WM h k u18) := hD
              refine lv_istore (lv' := [(11, .int r19), (10, .int y12), (9, .int y11), (8, .int y8), (7, .int y7), (6, .int y12), (5, .int y11), (4, .int y8), (3, .int y7), (0, .ref (h 0)), (1, .int p0), (2, .int p1)]) hx hb d_M_touch_215 hl (by decide) rfl (fun ls hl => ?_)
              refine lv_aload_n hx hb d_M_touch_217 rfl (lv_at hl 9 rfl) ?_
              refine lv_iload hx hb d_M_touch_218 (lv_at hl 2 rfl) ?_
              refine lv_iload hx hb d_M_touch_220 (lv_at hl 1 rfl) ?_
              refine lv_iconst (v := 2) hx hb d_M_touch_222 (by decide) ?_
              refine lv_idiv hx hb d_M_touch_223 (by decide) ?_
              refine lv_iload hx hb d_M_touch_224 (lv_at hl 4 rfl) ?_
              have hFc := va_freeA hD hS hA
              refine va_calli (va_runV (As := [.int y11, .int (y12 / 2), .int y7]) (rest := []) ⟨hx, hb, hml, hown, hts⟩ (t_M_ends l dC dI h k _ u18 y11 (y12 / 2) y7 hw) (cwV 3 hts (gV m_539 m_541 s_29 m_5 (cw_call m_542)) rfl rfl rfl (by decide +kernel) ⟨Nat.le_of_ble_eq_true rfl, Nat.le_of_ble_eq_true rfl⟩) ⟨pRw_bl, va_recv hK hP (ci := 2) (q0 := 0) rfl rfl, fun U hU hW => ⟨rfl, pRw_at hP hK hN hD hU hW⟩⟩ rfl rfl hl.1 rfl (lv_room (Nat.le_of_ble_eq_true rfl)) d_M_touch_226 ⟨Nat.le_of_ble_eq_true rfl, Nat.le_of_ble_eq_true rfl⟩) hS (fun q _ h => hFc q h) hFc (fun r21 u20 t H1 locs ht hvm hw hB hz1 hk1 hS => ?_)
              obtain ⟨hP1, hD1⟩ := hB
              rw [ht] at hP1
              have hP := hP1
              have hD := hD1.weaken (fun _ q _ h => hFc q.1 h)
              generalize H1 = H at hP hS ⊢
              have hP : va_P (dC, dI) vwCl (WM h k u20) H := hP
              have hD : va_D A (WM h k u20) := hD
              refine lv_istore (lv' := [(12, .int r21), (11, .int r19), (10, .int y12), (9, .int y11), (8, .int y8), (7, .int y7), (6, .int y12), (5, .int y11), (4, .int y8), (3, .int y7), (0, .ref (h 0)), (1, .int p0), (2, .int p1)]) hx hb d_M_touch_229 hl (by decide) rfl (fun ls hl => ?_)
              refine lv_iload hx hb d_M_touch_231 (lv_at hl 4 rfl) ?_
              refine lv_iconst (v := 2) hx hb d_M_touch_233 (by decide) ?_
              refine lv_iload hx hb d_M_touch_234 (lv_at hl 1 rfl) ?_
              refine lv_imul hx hb d_M_touch_236 ?_
              refine lv_iconst (v := 1) hx hb d_M_touch_237 (by decide) ?_
              refine lv_iadd hx hb d_M_touch_238 ?_
              refine lv_icmp_lt (tgt := 257) hx hb d_M_touch_239 (by decide) (fun c22 => ?_) (fun c22 => ?_)
              · skip
                have hw := hw.1 c22
                refine lv_iconst (v := 0) hx hb d_M_touch_257 (by decide) ?_
                exact W.zret (v := 0) hx hb hr rfl (fun t ht hW => ⟨⟨0, u20, rfl, hw, by rw [ht]; exact hP, hD⟩, hS.F ht⟩) hS.2.2 d_M_touch_258
              · skip
                have hw := hw.2 c22
                refine lv_iload hx hb d_M_touch_242 (lv_at hl 4 rfl) ?_
                refine lv_iconst (v := 2) hx hb d_M_touch_244 (by decide) ?_
                refine lv_iload hx hb d_M_touch_245 (lv_at hl 0 rfl) ?_
                refine lv_imul hx hb d_M_touch_247 ?_
                refine lv_iconst (v := 1) hx hb d_M_touch_248 (by decide) ?_
                refine lv_iadd hx hb d_M_touch_249 ?_
                refine lv_icmp_gt (tgt := 257) hx hb d_M_touch_250 (by decide) (fun c23 => ?_) (fun c23 => ?_)
                · skip
                  have hw := hw.1 c23
                  refine lv_iconst (v := 0) hx hb d_M_touch_257 (by decide) ?_
                  exact W.zret (v := 0) hx hb hr rfl (fun t ht hW => ⟨⟨0, u20, rfl, hw, by rw [ht]; exact hP, hD⟩, hS.F ht⟩) hS.2.2 d_M_touch_258
                · skip
                  have hw := hw.2 c23
                  refine lv_iconst (v := 1) hx hb d_M_touch_253 (by decide) ?_
                  refine lv_goto (tgt := 258) hx hb d_M_touch_254 (by decide) ?_
                  exact W.zret (v := 1) hx hb hr rfl (fun t ht hW => ⟨⟨1, u20, rfl, hw, by rw [ht]; exact hP, hD⟩, hS.F ht⟩) hS.2.2 d_M_touch_258
            · skip
              have hw := hw.2 c17
              refine lv_iload hx hb d_M_touch_174 (lv_at hl 2 rfl) ?_
              refine lv_iconst (v := 2) hx hb d_M_touch_176 (by decide) ?_
              refine lv_aload_n hx hb d_M_touch_177 rfl (lv_at hl 8 rfl) ?_
              refine lv_iload hx hb d_M_touch_178 (lv_at hl 1 rfl) ?_
              refine lv_iload hx hb d_M_touch_180 (lv_at hl 0 rfl) ?_
              refine lv_iconst (v := 2) hx hb d_M_touch_182 (by decide) ?_
              refine lv_idiv hx hb d_M_touch_183 (by decide) ?_
              refine lv_iload hx hb d_M_touch_184 (lv_at hl 3 rfl) ?_
              have hFc := va_freeA hD hS hA
              refine va_calli (va_runV (As := [.int y11, .int (y12 / 2), .int y7]) (rest := [.int 2, .int y8]) ⟨hx, hb, hml, hown, hts⟩ (t_M_ends l dC dI h k _ u9 y11 (y12 / 2) y7 hw) (cwV 3 hts (gV m_539 m_541 s_29 m_5 (cw_call m_542)) rfl rfl rfl (by decide +kernel) ⟨Nat.le_of_ble_eq_true rfl, Nat.le_of_ble_eq_true rfl⟩) ⟨pRw_bl, va_recv hK hP (ci := 2) (q0 := 0) rfl rfl, fun U hU hW => ⟨rfl, pRw_at hP hK hN hD hU hW⟩⟩ rfl rfl hl.1 rfl (lv_room (Nat.le_of_ble_eq_true rfl)) d_M_touch_186 ⟨Nat.le_of_ble_eq_true rfl, Nat.le_of_ble_eq_true rfl⟩) hS (fun q _ h => hFc q h) hFc (fun r25 u24 t H1 locs ht hvm hw hB hz1 hk1 hS => ?_)
              obtain ⟨hP1, hD1⟩ := hB
              rw [ht] at hP1
              have hP := hP1
              have hD := hD1.weaken (fun _ q _ h => hFc q.1 h)
              generalize H1 = H at hP hS ⊢
              have hP : va_P (dC, dI) vwCl (WM h k u24) H := hP
              have hD : va_D A (WM h k u24) := hD
              refine lv_imul hx hb d_M_touch_189 ?_
              refine lv_iconst (v := 1) hx hb d_M_touch_190 (by decide) ?_
              refine lv_iadd hx hb d_M_touch_191 ?_
              refine lv_icmp_ne (tgt := 199) hx hb d_M_touch_192 (by decide) (fun c26 => ?_) (fun c26 => ?_)
              · skip
                have hw := hw.1 c26
                refine lv_iconst (v := 0) hx hb d_M_touch_199 (by decide) ?_
                exact W.zret (v := 0) hx hb hr rfl (fun t ht hW => ⟨⟨0, u24, rfl, hw, by rw [ht]; exact hP, hD⟩, hS.F ht⟩) hS.2.2 d_M_touch_200
              · skip
                have hw := hw.2 c26
                refine lv_iconst (v := 1) hx hb d_M_touch_195 (by decide) ?_
                refine lv_goto (tgt := 200) hx hb d_M_touch_196 (by decide) ?_
                exact W.zret (v := 1) hx hb hr rfl (fun t ht hW => ⟨⟨1, u24, rfl, hw, by rw [ht]; exact hP, hD⟩, hS.F ht⟩) hS.2.2 d_M_touch_200
          · skip
            have hw := hw.2 c16
            refine lv_iload hx hb d_M_touch_108 (lv_at hl 1 rfl) ?_
            refine lv_goto (tgt := 114) hx hb d_M_touch_110 (by decide) ?_
            refine lv_istore (lv' := [(7, .int y11), (6, .int y12), (5, .int y11), (4, .int y8), (3, .int y7), (0, .ref (h 0)), (1, .int p0), (2, .int p1)]) hx hb d_M_touch_114 hl (by decide) rfl (fun ls hl => ?_)
            refine lv_iload hx hb d_M_touch_116 (lv_at hl 2 rfl) ?_
            refine lv_iconst (v := 2) hx hb d_M_touch_118 (by decide) ?_
            refine lv_irem hx hb d_M_touch_119 (by decide) ?_
            refine lv_iconst (v := 1) hx hb d_M_touch_120 (by decide) ?_
            refine lv_icmp_ne (tgt := 129) hx hb d_M_touch_121 (by decide) (fun cz => absurd c16 cz) (fun _ => ?_)
            refine lv_iload hx hb d_M_touch_124 (lv_at hl 1 rfl) ?_
            refine lv_goto (tgt := 131) hx hb d_M_touch_126 (by decide) ?_
            refine lv_istore (lv' := [(8, .int y12), (7, .int y11), (6, .int y12), (5, .int y11), (4, .int y8), (3, .int y7), (0, .ref (h 0)), (1, .int p0), (2, .int p1)]) hx hb d_M_touch_131 hl (by decide) rfl (fun ls hl => ?_)
            refine lv_iload hx hb d_M_touch_133 (lv_at hl 3 rfl) ?_
            refine lv_iconst (v := 2) hx hb d_M_touch_135 (by decide) ?_
            refine lv_irem hx hb d_M_touch_136 (by decide) ?_
            refine lv_iconst (v := 1) hx hb d_M_touch_137 (by decide) ?_
            refine lv_icmp_ne (tgt := 145) hx hb d_M_touch_138 (by decide) (fun cz => absurd c16 cz) (fun _ => ?_)
            refine lv_iload_n hx hb d_M_touch_141 rfl (lv_at hl 5 rfl) ?_
            refine lv_goto (tgt := 147) hx hb d_M_touch_142 (by decide) ?_
            refine lv_istore (lv' := [(9, .int y7), (8, .int y12), (7, .int y11), (6, .int y12), (5, .int y11), (4, .int y8), (3, .int y7), (0, .ref (h 0)), (1, .int p0), (2, .int p1)]) hx hb d_M_touch_147 hl (by decide) rfl (fun ls hl => ?_)
            refine lv_iload hx hb d_M_touch_149 (lv_at hl 4 rfl) ?_
            refine lv_iconst (v := 2) hx hb d_M_touch_151 (by decide) ?_
            refine lv_irem hx hb d_M_touch_152 (by decide) ?_
            refine lv_iconst (v := 1) hx hb d_M_touch_153 (by decide) ?_
            refine lv_icmp_ne (tgt := 162) hx hb d_M_touch_154 (by decide) (fun cz => absurd c16 cz) (fun _ => ?_)
            refine lv_iload hx hb d_M_touch_157 (lv_at hl 5 rfl) ?_
            refine lv_goto (tgt := 164) hx hb d_M_touch_159 (by decide) ?_
            refine lv_istore (lv' := [(10, .int y8), (9, .int y7), (8, .int y12), (7, .int y11), (6, .int y12), (5, .int y11), (4, .int y8), (3, .int y7), (0, .ref (h 0)), (1, .int p0), (2, .int p1)]) hx hb d_M_touch_164 hl (by decide) rfl (fun ls hl => ?_)
            refine lv_iload hx hb d_M_touch_166 (lv_at hl 0 rfl) ?_
            refine lv_iconst (v := 2) hx hb d_M_touch_168 (by decide) ?_
            refine lv_irem hx hb d_M_touch_169 (by decide) ?_
            refine lv_iconst (v := 1) hx hb d_M_touch_170 (by decide) ?_
            refine lv_icmp_ne (tgt := 201) hx hb d_M_touch_171 (by decide) (fun c27 => ?_) (fun c27 => ?_)
            · skip
              have hw := hw.1 c27
              refine lv_aload_n hx hb d_M_touch_201 rfl (lv_at hl 8 rfl) ?_
              refine lv_iload hx hb d_M_touch_202 (lv_at hl 1 rfl) ?_
              refine lv_iload hx hb d_M_touch_204 (lv_at hl 0 rfl) ?_
              refine lv_iconst (v := 2) hx hb d_M_touch_206 (by decide) ?_
              refine lv_idiv hx hb d_M_touch_207 (by decide) ?_
              refine lv_iconst (v := 1) hx hb d_M_touch_208 (by decide) ?_
              refine lv_isub hx hb d_M_touch_209 ?_
              refine lv_iload hx hb d_M_touch_210 (lv_at hl 3 rfl) ?_
              have hFc := va_freeA hD hS hA
              refine va_calli (va_runV (As := [.int y7, .int ((y8 / 2) - 1), .int y11]) (rest := []) ⟨hx, hb, hml, hown, hts⟩ (t_M_ends l dC dI h k _ u9 y7 ((y8 / 2) - 1) y11 hw) (cwV 3 hts (gV m_539 m_541 s_29 m_5 (cw_call m_542)) rfl rfl rfl (by decide +kernel) ⟨Nat.le_of_ble_eq_true rfl, Nat.le_of_ble_eq_true rfl⟩) ⟨pRw_bl, va_recv hK hP (ci := 2) (q0 := 0) rfl rfl, fun U hU hW => ⟨rfl, pRw_at hP hK hN hD hU hW⟩⟩ rfl rfl hl.1 rfl (lv_room (Nat.le_of_ble_eq_true rfl)) d_M_touch_212 ⟨Nat.le_of_ble_eq_true rfl, Nat.le_of_ble_eq_true rfl⟩) hS (fun q _ h => hFc q h) hFc (fun r29 u28 t H1 locs ht hvm hw hB hz1 hk1 hS => ?_)
              obtain ⟨hP1, hD1⟩ := hB
              rw [ht] at hP1
              have hP := hP1
              have hD := hD1.weaken (fun _ q _ h => hFc q.1 h)
              generalize H1 = H at hP hS ⊢
              have hP : va_P (dC, dI) vwCl (WM h k u28) H := hP
              have hD : va_D A (WM h k u28) := hD
              refine lv_istore (lv' := [(11, .int r29), (10, .int y8), (9, .int y7), (8, .int y12), (7, .int y11), (6, .int y12), (5, .int y11), (4, .int y8), (3, .int y7), (0, .ref (h 0)), (1, .int p0), (2, .int p1)]) hx hb d_M_touch_215 hl (by decide) rfl (fun ls hl => ?_)
              refine lv_aload_n hx hb d_M_touch_217 rfl (lv_at hl 9 rfl) ?_
              refine lv_iload hx hb d_M_touch_218 (lv_at hl 2 rfl) ?_
              refine lv_iload hx hb d_M_touch_220 (lv_at hl 1 rfl) ?_
              refine lv_iconst (v := 2) hx hb d_M_touch_222 (by decide) ?_
              refine lv_idiv hx hb d_M_touch_223 (by decide) ?_
              refine lv_iload hx hb d_M_touch_224 (lv_at hl 4 rfl) ?_
              have hFc := va_freeA hD hS hA
              refine va_calli (va_runV (As := [.int y7, .int (y8 / 2), .int y11]) (rest := []) ⟨hx, hb, hml, hown, hts⟩ (t_M_ends l dC dI h k _ u28 y7 (y8 / 2) y11 hw) (cwV 3 hts (gV m_539 m_541 s_29 m_5 (cw_call m_542)) rfl rfl rfl (by decide +kernel) ⟨Nat.le_of_ble_eq_true rfl, Nat.le_of_ble_eq_true rfl⟩) ⟨pRw_bl, va_recv hK hP (ci := 2) (q0 := 0) rfl rfl, fun U hU hW => ⟨rfl, pRw_at hP hK hN hD hU hW⟩⟩ rfl rfl hl.1 rfl (lv_room (Nat.le_of_ble_eq_true rfl)) d_M_touch_226 ⟨Nat.le_of_ble_eq_true rfl, Nat.le_of_ble_eq_true rfl⟩) hS (fun q _ h => hFc q h) hFc (fun r31 u30 t H1 locs ht hvm hw hB hz1 hk1 hS => ?_)
              obtain ⟨hP1, hD1⟩ := hB
              rw [ht] at hP1
              have hP := hP1
              have hD := hD1.weaken (fun _ q _ h => hFc q.1 h)
              generalize H1 = H at hP hS ⊢
              have hP : va_P (dC, dI) vwCl (WM h k u30) H := hP
              have hD : va_D A (WM h k u30) := hD
              refine lv_istore (lv' := [(12, .int r31), (11, .int r29), (10, .int y8), (9, .int y7), (8, .int y12), (7, .int y11), (6, .int y12), (5, .int y11), (4, .int y8), (3, .int y7), (0, .ref (h 0)), (1, .int p0), (2, .int p1)]) hx hb d_M_touch_229 hl (by decide) rfl (fun ls hl => ?_)
              refine lv_iload hx hb d_M_touch_231 (lv_at hl 4 rfl) ?_
              refine lv_iconst (v := 2) hx hb d_M_touch_233 (by decide) ?_
              refine lv_iload hx hb d_M_touch_234 (lv_at hl 1 rfl) ?_
              refine lv_imul hx hb d_M_touch_236 ?_
              refine lv_iconst (v := 1) hx hb d_M_touch_237 (by decide) ?_
              refine lv_iadd hx hb d_M_touch_238 ?_
              refine lv_icmp_lt (tgt := 257) hx hb d_M_touch_239 (by decide) (fun c32 => ?_) (fun c32 => ?_)
              · skip
                have hw := hw.1 c32
                refine lv_iconst (v := 0) hx hb d_M_touch_257 (by decide) ?_
                exact W.zret (v := 0) hx hb hr rfl (fun t ht hW => ⟨⟨0, u30, rfl, hw, by rw [ht]; exact hP, hD⟩, hS.F ht⟩) hS.2.2 d_M_touch_258
              · skip
                have hw := hw.2 c32
                refine lv_iload hx hb d_M_touch_242 (lv_at hl 4 rfl) ?_
                refine lv_iconst (v := 2) hx hb d_M_touch_244 (by decide) ?_
                refine lv_iload hx hb d_M_touch_245 (lv_at hl 0 rfl) ?_
                refine lv_imul hx hb d_M_touch_247 ?_
                refine lv_iconst (v := 1) hx hb d_M_touch_248 (by decide) ?_
                refine lv_iadd hx hb d_M_touch_249 ?_
                refine lv_icmp_gt (tgt := 257) hx hb d_M_touch_250 (by decide) (fun c33 => ?_) (fun c33 => ?_)
                · skip
                  have hw := hw.1 c33
                  refine lv_iconst (v := 0) hx hb d_M_touch_257 (by decide) ?_
                  exact W.zret (v := 0) hx hb hr rfl (fun t ht hW => ⟨⟨0, u30, rfl, hw, by rw [ht]; exact hP, hD⟩, hS.F ht⟩) hS.2.2 d_M_touch_258
                · skip
                  have hw := hw.2 c33
                  refine lv_iconst (v := 1) hx hb d_M_touch_253 (by decide) ?_
                  refine lv_goto (tgt := 258) hx hb d_M_touch_254 (by decide) ?_
                  exact W.zret (v := 1) hx hb hr rfl (fun t ht hW => ⟨⟨1, u30, rfl, hw, by rw [ht]; exact hP, hD⟩, hS.F ht⟩) hS.2.2 d_M_touch_258
            · skip
              have hw := hw.2 c27
              refine lv_iload hx hb d_M_touch_174 (lv_at hl 2 rfl) ?_
              refine lv_iconst (v := 2) hx hb d_M_touch_176 (by decide) ?_
              refine lv_aload_n hx hb d_M_touch_177 rfl (lv_at hl 8 rfl) ?_
              refine lv_iload hx hb d_M_touch_178 (lv_at hl 1 rfl) ?_
              refine lv_iload hx hb d_M_touch_180 (lv_at hl 0 rfl) ?_
              refine lv_iconst (v := 2) hx hb d_M_touch_182 (by decide) ?_
              refine lv_idiv hx hb d_M_touch_183 (by decide) ?_
              refine lv_iload hx hb d_M_touch_184 (lv_at hl 3 rfl) ?_
              have hFc := va_freeA hD hS hA
              refine va_calli (va_runV (As := [.int y7, .int (y8 / 2), .int y11]) (rest := [.int 2, .int y12]) ⟨hx, hb, hml, hown, hts⟩ (t_M_ends l dC dI h k _ u9 y7 (y8 / 2) y11 hw) (cwV 3 hts (gV m_539 m_541 s_29 m_5 (cw_call m_542)) rfl rfl rfl (by decide +kernel) ⟨Nat.le_of_ble_eq_true rfl, Nat.le_of_ble_eq_true rfl⟩) ⟨pRw_bl, va_recv hK hP (ci := 2) (q0 := 0) rfl rfl, fun U hU hW => ⟨rfl, pRw_at hP hK hN hD hU hW⟩⟩ rfl rfl hl.1 rfl (lv_room (Nat.le_of_ble_eq_true rfl)) d_M_touch_186 ⟨Nat.le_of_ble_eq_true rfl, Nat.le_of_ble_eq_true rfl⟩) hS (fun q _ h => hFc q h) hFc (fun r35 u34 t H1 locs ht hvm hw hB hz1 hk1 hS => ?_)
              obtain ⟨hP1, hD1⟩ := hB
              rw [ht] at hP1
              have hP := hP1
              have hD := hD1.weaken (fun _ q _ h => hFc q.1 h)
              generalize H1 = H at hP hS ⊢
              have hP : va_P (dC, dI) vwCl (WM h k u34) H := hP
              have hD : va_D A (WM h k u34) := hD
              refine lv_imul hx hb d_M_touch_189 ?_
              refine lv_iconst (v := 1) hx hb d_M_touch_190 (by decide) ?_
              refine lv_iadd hx hb d_M_touch_191 ?_
              refine lv_icmp_ne (tgt := 199) hx hb d_M_touch_192 (by decide) (fun c36 => ?_) (fun c36 => ?_)
              · skip
                have hw := hw.1 c36
                refine lv_iconst (v := 0) hx hb d_M_touch_199 (by decide) ?_
                exact W.zret (v := 0) hx hb hr rfl (fun t ht hW => ⟨⟨0, u34, rfl, hw, by rw [ht]; exact hP, hD⟩, hS.F ht⟩) hS.2.2 d_M_touch_200
              · skip
                have hw := hw.2 c36
                refine lv_iconst (v := 1) hx hb d_M_touch_195 (by decide) ?_
                refine lv_goto (tgt := 200) hx hb d_M_touch_196 (by decide) ?_
                exact W.zret (v := 1) hx hb hr rfl (fun t ht hW => ⟨⟨1, u34, rfl, hw, by rw [ht]; exact hP, hD⟩, hS.F ht⟩) hS.2.2 d_M_touch_200
        · skip
          have hw := hw.2 c15
          refine lv_iconst (v := 0) hx hb d_M_touch_98 (by decide) ?_
          exact W.zret (v := 0) hx hb hr rfl (fun t ht hW => ⟨⟨0, u9, rfl, hw, by rw [ht]; exact hP, hD⟩, hS.F ht⟩) hS.2.2 d_M_touch_99
      · skip
        have hw := hw.2 c13
        refine lv_iload hx hb d_M_touch_69 (lv_at hl 0 rfl) ?_
        refine lv_iload hx hb d_M_touch_71 (lv_at hl 2 rfl) ?_
        refine lv_isub hx hb d_M_touch_73 ?_
        refine lv_i2l (v := (y12 - y8).toInt64) hx hb d_M_touch_74 rfl ?_
        refine lv_ldc2 (v := (-1)) hx hb hown (hts _ m_538) d_M_touch_75 ?_
        refine lv_lconst (v := 1) hx hb d_M_touch_78 (by decide) ?_
        refine vp_callSi (va_Run.run (va_runS (As := [.long ((y12 - y8).toInt64), .long (-1), .long 1]) (rest := []) ⟨hx, hb, hml, hown, hts⟩ (t_M_in l ((y12 - y8).toInt64) ((-1) : Int64) (1 : Int64) hw) (va_cwS 3 hts (gS m_432 m_433 m_5 (cw_call m_434)) rfl rfl rfl (by decide +kernel) ⟨Nat.le_of_ble_eq_true rfl, Nat.le_of_ble_eq_true rfl⟩) ⟨pSt_bl, fun U hU hW => ⟨rfl, trivial⟩⟩ rfl rfl hl.1 rfl (lv_room (Nat.le_of_ble_eq_true rfl)) d_M_touch_79 ⟨Nat.le_of_ble_eq_true rfl, Nat.le_of_ble_eq_true rfl⟩)) (fun r37 hw => ?_)
        obtain ⟨hn, hw⟩ := hw
        exact W.zret (v := r37) hx hb hr hn (fun t ht hW => ⟨⟨r37, u9, rfl, hw, by rw [ht]; exact hP, hD⟩, hS.F ht⟩) hS.2.2 d_M_touch_82
