def w_L_line (st : QS) (post : Int32 → QS → Prop) (p1 : Int32) (p2 : Int32) (p3 : Int32) : Prop := w_C_line (QS.x st) (fun r2 u1 => (post 0 (QS.set_o (QS.set_x st u1) (vp_updL (QS.o st) (0 : Int32).toNatClampNeg r2.toInt64)))) (fun E3 u4 => ((E3 = eIA ∧ (post 1 (QS.set_x st u4))) ∨ (E3 = eIS ∧ (post 2 (QS.set_x st u4))))) p1 p2 p3
set_option maxHeartbeats 4000000 in
set_option maxRecDepth 100000 in
theorem t_L_line (l : Launch) (hst : l.stackTraces = false) (dC : Nat → ClassId) (dI : Nat → Nat → Nat) (h : Nat → Nat) (k : Nat → ClassId) (sz : Nat) (st : QS) (p1 : Int32) (p2 : Int32) (p3 : Int32) {post : Int32 → QS → Prop} (hw : w_L_line st post p1 p2 p3) : Met l y_L_line (Cond.codeWith y_L_line method_3_code 6 (some .int) [(0, 12, 15, 13), (0, 12, 19, 15)] :: cw) ({ frames := 7, cells := 1, slots := 6, locals := 176 } : Room) (va_Pc [.ref (h 0), .int p1, .int p2, .int p3, .ref (h 45)] (pRl (dC, dI) (WL h k st) (YL k) sz)) (va_Qi post (fun u t => va_P (dC, dI) vwCl (WL h k u) t.heap ∧ va_D (va_A (WL h k st) sz) (WL h k u)) (va_A (WL h k st) sz)) 1 6 (va_A (WL h k st) sz) := by
  refine va_MetW (hh := [(0, 12, 15, 13), (0, 12, 19, 15)]) (cc := method_3_code) (maxL := 6) (ret := (some .int)) (by decide) rfl ?_
  intro p e s m args below meth c s₁ B hml hv
  obtain ⟨rfl, ⟨⟨hsz, hP, hK, hN, hD0⟩, hX, hT, hZ⟩, hCISIA, hCIAIO⟩ := hv
  have hx := B.exec
  have hb := B.bytes
  have hr := B.returns
  have hts : ∀ w ∈ cw, w.before _ s = true := fun w h => atoms_spec (ws := (Cond.codeWith y_L_line method_3_code 6 (some .int) [(0, 12, 15, 13), (0, 12, 19, 15)] :: cw)) B.pre w (List.mem_cons_of_mem _ h)
  have hown : s.vm.findClass RL = some m.cls := findClass_of_methodNamed B.named
  have hlocks := B.notSynchronized
  have hex : c.exceptionTable.toList = [⟨0, 12, 15, 13⟩, ⟨0, 12, 19, 15⟩] := vx_table (x := y_L_line) B (atoms_spec (ws := (Cond.codeWith y_L_line method_3_code 6 (some .int) [(0, 12, 15, 13), (0, 12, 19, 15)] :: cw)) B.pre _ List.mem_cons_self)
  have C0 : cxt p s m _ meth c method_3_code 6 RL (some .int) := ⟨hx, hb, hr, hml, hown, hts, hlocks⟩
  subst hsz
  have hD := hD0.self (sz := s.heap.size)
  generalize hAe : va_A (WL h k st) s.heap.size = A at hD hZ ⊢
  have hA : ∀ q : Nat, s.heap.size ≤ q → A q := fun q h => by rw [← hAe]; exact Or.inr h
  have hS : va_S A s.heap s.heap [] := va_S.rf
  have hl := lv_entry ([.ref (h 0), .int p1, .int p2, .int p3, .ref (h 45)]) (n := 6) (Nat.le_of_ble_eq_true rfl)
  rw [lg_entry_eq]
  generalize (lg_sl ([.ref (h 0), .int p1, .int p2, .int p3, .ref (h 45)]) ++ List.replicate (6 - (lg_sl ([.ref (h 0), .int p1, .int p2, .int p3, .ref (h 45)])).length) Slot.unset).toArray = ls at hl ⊢
  have hl : lv_has ls 6 [(0, .ref (h 0)), (1, .int p1), (2, .int p2), (3, .int p3), (4, .ref (h 45))] := hl
  unfold w_L_line at hw
  refine lv_aload hx hb d_L_line_0 (lv_at hl 4 rfl) ?_
  refine lv_iconst (v := 0) hx hb d_L_line_2 (by decide) ?_
  refine lv_aload_n hx hb d_L_line_3 rfl (lv_at hl 0 rfl) ?_
  refine lv_iload_n hx hb d_L_line_4 rfl (lv_at hl 1 rfl) ?_
  refine lv_iload_n hx hb d_L_line_5 rfl (lv_at hl 2 rfl) ?_
  refine lv_iload_n hx hb d_L_line_6 rfl (lv_at hl 3 rfl) ?_
  have hPc := va_P_r hP
  have hDc := va_D_r hD
  have hKc := hK.sub (tys' := YC k) [1, 2, 3, 4, 5, 6, 7, 8, 9, 10, 11, 12] rfl
  have hFc := va_freeA hDc hS hA
  refine vx_calli (vx_runV (As := [.int p1, .int p2, .int p3]) (rest := [.int 0, .ref (h 45)]) ⟨hx, hb, hml, hown, hts⟩ (t_C_line l hst dC dI h k _ (QS.x st) p1 p2 p3 hw) (cwV 3 hts (gV m_175 m_176 m_177 m_1 (cw_call m_178)) rfl rfl rfl (by decide +kernel) ⟨Nat.le_of_ble_eq_true rfl, Nat.le_of_ble_eq_true rfl⟩) ⟨pRx_bl, va_recv hKc hPc (ci := 1) (q0 := 0) rfl rfl, fun U hU hW => ⟨rfl, pRx_at hPc hKc hN hDc hX hT hZ hS hFc hU hW⟩⟩ rfl rfl hl.1 rfl (lv_room (Nat.le_of_ble_eq_true rfl)) d_L_line_7 ⟨Nat.le_of_ble_eq_true rfl, Nat.le_of_ble_eq_true rfl⟩) hS (fun q _ h => hFc q h) hFc (fun q _ h => hFc q h) (fun E ce q9 z t H1 locs ht hvm hw hB hz1 hk1 hS hce hcv hcl => ?_) (fun r2 u1 t H1 locs ht hvm hw hB hz1 hk1 hS => ?_)
  · obtain ⟨E3, u4⟩ := z
    obtain ⟨he, hP1, hD1⟩ := hB
    have he : E3 = E := he
    rw [ht] at hP1
    obtain ⟨hP, hD⟩ := va_swapT (pre := [(h 45, .inl (k 45, 1, .inr (.inl (QS.o st))))]) hP hD hk1 hP1 (wc_addr _ _ _ _)
    generalize H1 = H at hP hS hce ⊢
    have hP : va_P (dC, dI) vwCl (WL h k (QS.set_x st u4)) H := hP
    have hD : va_D A (WL h k (QS.set_x st u4)) := hD
    rcases hw with ⟨ez, hw⟩ | hw
    · have e9 := he.symm.trans ez
      subst e9
      refine vx_catch (own := RL) (name := eIA) (E := eIA) hown [] ⟨0, 12, 15, 13⟩ [⟨0, 12, 19, 15⟩] hex (fun _ h9 => absurd h9 List.not_mem_nil) (by decide) (by decide) (hts _ m_173) (hX.use (by decide +kernel)) hce hcv hcl ?_
      refine lv_astore (lv' := [(5, .ref q9), (0, .ref (h 0)), (1, .int p1), (2, .int p2), (3, .int p3), (4, .ref (h 45))]) hx hb d_L_line_15 hl (by decide) rfl (fun ls hl => ?_)
      refine lv_iconst (v := 1) hx hb d_L_line_17 (by decide) ?_
      exact W.iret (v := 1) hx hb hr (fun t ht hW => ⟨⟨1, (QS.set_x st u4), rfl, hw, by rw [ht]; exact hP, hD⟩, hS.F ht⟩) hS.2.2 d_L_line_18
    obtain ⟨ez, hw⟩ := hw
    have e9 := he.symm.trans ez
    subst e9
    refine vx_catch (own := RL) (name := eIS) (E := eIS) hown [⟨0, 12, 15, 13⟩] ⟨0, 12, 19, 15⟩ [] hex (fun z hz => by rcases List.mem_singleton.mp hz with rfl; exact Or.inr ⟨by decide, eIA, hts _ m_173, hCISIA⟩) (by decide) (by decide) (hts _ m_174) (hX.use (by decide +kernel)) hce hcv hcl ?_
    refine lv_astore (lv' := [(5, .ref q9), (0, .ref (h 0)), (1, .int p1), (2, .int p2), (3, .int p3), (4, .ref (h 45))]) hx hb d_L_line_19 hl (by decide) rfl (fun ls hl => ?_)
    refine lv_iconst (v := 2) hx hb d_L_line_21 (by decide) ?_
    exact W.iret (v := 2) hx hb hr (fun t ht hW => ⟨⟨2, (QS.set_x st u4), rfl, hw, by rw [ht]; exact hP, hD⟩, hS.F ht⟩) hS.2.2 d_L_line_22
  · obtain ⟨hP1, hD1⟩ := hB
    rw [ht] at hP1
    obtain ⟨hP, hD⟩ := va_swapT (pre := [(h 45, .inl (k 45, 1, .inr (.inl (QS.o st))))]) hP hD hk1 hP1 (wc_addr _ _ _ _)
    generalize H1 = H at hP hS ⊢
    have hP : va_P (dC, dI) vwCl (WL h k (QS.set_x st u1)) H := hP
    have hD : va_D A (WL h k (QS.set_x st u1)) := hD
    refine lv_i2l (v := r2.toInt64) hx hb d_L_line_10 rfl ?_
    refine va_last hx hb hK hP hD hS 0 0 rfl rfl (by unfold vp_in; decide) d_L_line_11 (fun H locs hP hD hS => ?_)
    have hP : va_P (dC, dI) vwCl (WL h k (QS.set_o (QS.set_x st u1) (vp_updL (QS.o st) (0 : Int32).toNatClampNeg r2.toInt64))) H := hP
    have hD : va_D A (WL h k (QS.set_o (QS.set_x st u1) (vp_updL (QS.o st) (0 : Int32).toNatClampNeg r2.toInt64))) := hD
    refine lv_goto (tgt := 23) hx hb d_L_line_12 (by decide) ?_
    refine lv_iconst (v := 0) hx hb d_L_line_23 (by decide) ?_
    exact W.iret (v := 0) hx hb hr (fun t ht hW => ⟨⟨0, (QS.set_o (QS.set_x st u1) (vp_updL (QS.o st) (0 : Int32).toNatClampNeg r2.toInt64)), rfl, hw, by rw [ht]; exact hP, hD⟩, hS.F ht⟩) hS.2.2 d_L_line_24
def w_L_drop (st : QS) (post : Int32 → QS → Prop) (p1 : Int32) : Prop := w_C_drop (QS.x st) (fun u1 => (post 0 (QS.set_x st u1))) (fun E2 u3 => (E2 = eIO ∧ (post 1 (QS.set_x st u3)))) p1
set_option maxHeartbeats 4000000 in
set_option maxRecDepth 100000 in
theorem t_L_drop (l : Launch) (hst : l.stackTraces = false) (dC : Nat → ClassId) (dI : Nat → Nat → Nat) (h : Nat → Nat) (k : Nat → ClassId) (sz : Nat) (st : QS) (p1 : Int32) {post : Int32 → QS → Prop} (hw : w_L_drop st post p1) : Met l y_L_drop (Cond.codeWith y_L_drop method_4_code 3 (some .int) [(0, 5, 8, 21)] :: cw) ({ frames := 7, cells := 1, slots := 6, locals := 174 } : Room) (va_Pc [.ref (h 0), .int p1] (pRl (dC, dI) (WL h k st) (YL k) sz)) (va_Qi post (fun u t => va_P (dC, dI) vwCl (WL h k u) t.heap ∧ va_D (va_A (WL h k st) sz) (WL h k u)) (va_A (WL h k st) sz)) 1 6 (va_A (WL h k st) sz) := by
  refine va_MetW (hh := [(0, 5, 8, 21)]) (cc := method_4_code) (maxL := 3) (ret := (some .int)) (by decide) rfl ?_
  intro p e s m args below meth c s₁ B hml hv
  obtain ⟨rfl, ⟨⟨hsz, hP, hK, hN, hD0⟩, hX, hT, hZ⟩, hCISIA, hCIAIO⟩ := hv
  have hx := B.exec
  have hb := B.bytes
  have hr := B.returns
  have hts : ∀ w ∈ cw, w.before _ s = true := fun w h => atoms_spec (ws := (Cond.codeWith y_L_drop method_4_code 3 (some .int) [(0, 5, 8, 21)] :: cw)) B.pre w (List.mem_cons_of_mem _ h)
  have hown : s.vm.findClass RL = some m.cls := findClass_of_methodNamed B.named
  have hlocks := B.notSynchronized
  have hex : c.exceptionTable.toList = [⟨0, 5, 8, 21⟩] := vx_table (x := y_L_drop) B (atoms_spec (ws := (Cond.codeWith y_L_drop method_4_code 3 (some .int) [(0, 5, 8, 21)] :: cw)) B.pre _ List.mem_cons_self)
  have C0 : cxt p s m _ meth c method_4_code 3 RL (some .int) := ⟨hx, hb, hr, hml, hown, hts, hlocks⟩
  subst hsz
  have hD := hD0.self (sz := s.heap.size)
  generalize hAe : va_A (WL h k st) s.heap.size = A at hD hZ ⊢
  have hA : ∀ q : Nat, s.heap.size ≤ q → A q := fun q h => by rw [← hAe]; exact Or.inr h
  have hS : va_S A s.heap s.heap [] := va_S.rf
  have hl := lv_entry ([.ref (h 0), .int p1]) (n := 3) (Nat.le_of_ble_eq_true rfl)
  rw [lg_entry_eq]
  generalize (lg_sl ([.ref (h 0), .int p1]) ++ List.replicate (3 - (lg_sl ([.ref (h 0), .int p1])).length) Slot.unset).toArray = ls at hl ⊢
  have hl : lv_has ls 3 [(0, .ref (h 0)), (1, .int p1)] := hl
  unfold w_L_drop at hw
  refine lv_aload_n hx hb d_L_drop_0 rfl (lv_at hl 0 rfl) ?_
  refine lv_iload_n hx hb d_L_drop_1 rfl (lv_at hl 1 rfl) ?_
  have hPc := va_P_r hP
  have hDc := va_D_r hD
  have hKc := hK.sub (tys' := YC k) [1, 2, 3, 4, 5, 6, 7, 8, 9, 10, 11, 12] rfl
  have hFc := va_freeA hDc hS hA
  refine vx_callv (vx_runV (As := [.int p1]) (rest := []) ⟨hx, hb, hml, hown, hts⟩ (t_C_drop l hst dC dI h k _ (QS.x st) p1 hw) (cwV 1 hts (gV m_271 m_272 m_273 m_1 (cw_call m_274)) rfl rfl rfl (by decide +kernel) ⟨Nat.le_of_ble_eq_true rfl, Nat.le_of_ble_eq_true rfl⟩) ⟨pRx_bl, va_recv hKc hPc (ci := 1) (q0 := 0) rfl rfl, fun U hU hW => ⟨rfl, pRx_at hPc hKc hN hDc hX hT hZ hS hFc hU hW⟩⟩ rfl rfl hl.1 rfl (lv_room (Nat.le_of_ble_eq_true rfl)) d_L_drop_2 ⟨Nat.le_of_ble_eq_true rfl, Nat.le_of_ble_eq_true rfl⟩) hS (fun q _ h => hFc q h) hFc (fun q _ h => hFc q h) (fun E ce q9 z t H1 locs ht hvm hw hB hz1 hk1 hS hce hcv hcl => ?_) (fun u1 t H1 locs ht hvm hw hB hz1 hk1 hS => ?_)
  · obtain ⟨E2, u3⟩ := z
    obtain ⟨he, hP1, hD1⟩ := hB
    have he : E2 = E := he
    rw [ht] at hP1
    obtain ⟨hP, hD⟩ := va_swapT (pre := [(h 45, .inl (k 45, 1, .inr (.inl (QS.o st))))]) hP hD hk1 hP1 (wc_addr _ _ _ _)
    generalize H1 = H at hP hS hce ⊢
    have hP : va_P (dC, dI) vwCl (WL h k (QS.set_x st u3)) H := hP
    have hD : va_D A (WL h k (QS.set_x st u3)) := hD
    obtain ⟨ez, hw⟩ := hw
    have e9 := he.symm.trans ez
    subst e9
    refine vx_catch (own := RL) (name := eIO) (E := eIO) hown [] ⟨0, 5, 8, 21⟩ [] hex (fun _ h9 => absurd h9 List.not_mem_nil) (by decide) (by decide) (hts _ m_270) (hX.use (by decide +kernel)) hce hcv hcl ?_
    refine lv_astore_n (lv' := [(2, .ref q9), (0, .ref (h 0)), (1, .int p1)]) hx hb d_L_drop_8 rfl hl (by decide) rfl (fun ls hl => ?_)
    refine lv_iconst (v := 1) hx hb d_L_drop_9 (by decide) ?_
    exact W.iret (v := 1) hx hb hr (fun t ht hW => ⟨⟨1, (QS.set_x st u3), rfl, hw, by rw [ht]; exact hP, hD⟩, hS.F ht⟩) hS.2.2 d_L_drop_10
  · obtain ⟨hP1, hD1⟩ := hB
    rw [ht] at hP1
    obtain ⟨hP, hD⟩ := va_swapT (pre := [(h 45, .inl (k 45, 1, .inr (.inl (QS.o st))))]) hP hD hk1 hP1 (wc_addr _ _ _ _)
    generalize H1 = H at hP hS ⊢
    have hP : va_P (dC, dI) vwCl (WL h k (QS.set_x st u1)) H := hP
    have hD : va_D A (WL h k (QS.set_x st u1)) := hD
    refine lv_goto (tgt := 11) hx hb d_L_drop_5 (by decide) ?_
    refine lv_iconst (v := 0) hx hb d_L_drop_11 (by decide) ?_
    exact W.iret (v := 0) hx hb hr (fun t ht hW => ⟨⟨0, (QS.set_x st u1), rfl, hw, by rw [ht]; exact hP, hD⟩, hS.F ht⟩) hS.2.2 d_L_drop_12
def w_L_cut (st : QS) (post : Int32 → QS → Prop) (p1 : Int32) (p2 : Int32) : Prop := w_C_cut (QS.x st) (fun r2 u1 => (post 0 (QS.set_o (QS.set_x st u1) (vp_updL (QS.o st) (0 : Int32).toNatClampNeg r2)))) (fun E3 u4 => ((E3 = eIO ∧ (post 1 (QS.set_x st u4))) ∨ (E3 = eIA ∧ (post 2 (QS.set_x st u4))))) p1 p2
set_option maxHeartbeats 4000000 in
set_option maxRecDepth 100000 in
theorem t_L_cut (l : Launch) (hst : l.stackTraces = false) (dC : Nat → ClassId) (dI : Nat → Nat → Nat) (h : Nat → Nat) (k : Nat → ClassId) (sz : Nat) (st : QS) (p1 : Int32) (p2 : Int32) {post : Int32 → QS → Prop} (hw : w_L_cut st post p1 p2) : Met l y_L_cut (Cond.codeWith y_L_cut method_5_code 5 (some .int) [(0, 9, 12, 21), (0, 9, 16, 13)] :: cw) ({ frames := 7, cells := 1, slots := 6, locals := 126 } : Room) (va_Pc [.ref (h 0), .int p1, .int p2, .ref (h 45)] (pRl (dC, dI) (WL h k st) (YL k) sz)) (va_Qi post (fun u t => va_P (dC, dI) vwCl (WL h k u) t.heap ∧ va_D (va_A (WL h k st) sz) (WL h k u)) (va_A (WL h k st) sz)) 1 6 (va_A (WL h k st) sz) := by
  refine va_MetW (hh := [(0, 9, 12, 21), (0, 9, 16, 13)]) (cc := method_5_code) (maxL := 5) (ret := (some .int)) (by decide) rfl ?_
  intro p e s m args below meth c s₁ B hml hv
  obtain ⟨rfl, ⟨⟨hsz, hP, hK, hN, hD0⟩, hX, hT, hZ⟩, hCISIA, hCIAIO⟩ := hv
  have hx := B.exec
  have hb := B.bytes
  have hr := B.returns
  have hts : ∀ w ∈ cw, w.before _ s = true := fun w h => atoms_spec (ws := (Cond.codeWith y_L_cut method_5_code 5 (some .int) [(0, 9, 12, 21), (0, 9, 16, 13)] :: cw)) B.pre w (List.mem_cons_of_mem _ h)
  have hown : s.vm.findClass RL = some m.cls := findClass_of_methodNamed B.named
  have hlocks := B.notSynchronized
  have hex : c.exceptionTable.toList = [⟨0, 9, 12, 21⟩, ⟨0, 9, 16, 13⟩] := vx_table (x := y_L_cut) B (atoms_spec (ws := (Cond.codeWith y_L_cut method_5_code 5 (some .int) [(0, 9, 12, 21), (0, 9, 16, 13)] :: cw)) B.pre _ List.mem_cons_self)
  have C0 : cxt p s m _ meth c method_5_code 5 RL (some .int) := ⟨hx, hb, hr, hml, hown, hts, hlocks⟩
  subst hsz
  have hD := hD0.self (sz := s.heap.size)
  generalize hAe : va_A (WL h k st) s.heap.size = A at hD hZ ⊢
  have hA : ∀ q : Nat, s.heap.size ≤ q → A q := fun q h => by rw [← hAe]; exact Or.inr h
  have hS : va_S A s.heap s.heap [] := va_S.rf
  have hl := lv_entry ([.ref (h 0), .int p1, .int p2, .ref (h 45)]) (n := 5) (Nat.le_of_ble_eq_true rfl)
  rw [lg_entry_eq]
  generalize (lg_sl ([.ref (h 0), .int p1, .int p2, .ref (h 45)]) ++ List.replicate (5 - (lg_sl ([.ref (h 0), .int p1, .int p2, .ref (h 45)])).length) Slot.unset).toArray = ls at hl ⊢
  have hl : lv_has ls 5 [(0, .ref (h 0)), (1, .int p1), (2, .int p2), (3, .ref (h 45))] := hl
  unfold w_L_cut at hw
  refine lv_aload_n hx hb d_L_cut_0 rfl (lv_at hl 3 rfl) ?_
  refine lv_iconst (v := 0) hx hb d_L_cut_1 (by decide) ?_
  refine lv_aload_n hx hb d_L_cut_2 rfl (lv_at hl 0 rfl) ?_
  refine lv_iload_n hx hb d_L_cut_3 rfl (lv_at hl 1 rfl) ?_
  refine lv_iload_n hx hb d_L_cut_4 rfl (lv_at hl 2 rfl) ?_
  have hPc := va_P_r hP
  have hDc := va_D_r hD
  have hKc := hK.sub (tys' := YC k) [1, 2, 3, 4, 5, 6, 7, 8, 9, 10, 11, 12] rfl
  have hFc := va_freeA hDc hS hA
  refine vx_calll (vx_runV (As := [.int p1, .int p2]) (rest := [.int 0, .ref (h 45)]) ⟨hx, hb, hml, hown, hts⟩ (t_C_cut l hst dC dI h k _ (QS.x st) p1 p2 hw) (cwV 2 hts (gV m_298 m_299 m_300 m_1 (cw_call m_301)) rfl rfl rfl (by decide +kernel) ⟨Nat.le_of_ble_eq_true rfl, Nat.le_of_ble_eq_true rfl⟩) ⟨pRx_bl, va_recv hKc hPc (ci := 1) (q0 := 0) rfl rfl, fun U hU hW => ⟨rfl, pRx_at hPc hKc hN hDc hX hT hZ hS hFc hU hW⟩⟩ rfl rfl hl.1 rfl (lv_room (Nat.le_of_ble_eq_true rfl)) d_L_cut_5 ⟨Nat.le_of_ble_eq_true rfl, Nat.le_of_ble_eq_true rfl⟩) hS (fun q _ h => hFc q h) hFc (fun q _ h => hFc q h) (fun E ce q9 z t H1 locs ht hvm hw hB hz1 hk1 hS hce hcv hcl => ?_) (fun r2 u1 t H1 locs ht hvm hw hB hz1 hk1 hS => ?_)
  · obtain ⟨E3, u4⟩ := z
    obtain ⟨he, hP1, hD1⟩ := hB
    have he : E3 = E := he
    rw [ht] at hP1
    obtain ⟨hP, hD⟩ := va_swapT (pre := [(h 45, .inl (k 45, 1, .inr (.inl (QS.o st))))]) hP hD hk1 hP1 (wc_addr _ _ _ _)
    generalize H1 = H at hP hS hce ⊢
    have hP : va_P (dC, dI) vwCl (WL h k (QS.set_x st u4)) H := hP
    have hD : va_D A (WL h k (QS.set_x st u4)) := hD
    rcases hw with ⟨ez, hw⟩ | hw
    · have e9 := he.symm.trans ez
      subst e9
      refine vx_catch (own := RL) (name := eIO) (E := eIO) hown [] ⟨0, 9, 12, 21⟩ [⟨0, 9, 16, 13⟩] hex (fun _ h9 => absurd h9 List.not_mem_nil) (by decide) (by decide) (hts _ m_270) (hX.use (by decide +kernel)) hce hcv hcl ?_
      refine lv_astore (lv' := [(4, .ref q9), (0, .ref (h 0)), (1, .int p1), (2, .int p2), (3, .ref (h 45))]) hx hb d_L_cut_12 hl (by decide) rfl (fun ls hl => ?_)
      refine lv_iconst (v := 1) hx hb d_L_cut_14 (by decide) ?_
      exact W.iret (v := 1) hx hb hr (fun t ht hW => ⟨⟨1, (QS.set_x st u4), rfl, hw, by rw [ht]; exact hP, hD⟩, hS.F ht⟩) hS.2.2 d_L_cut_15
    obtain ⟨ez, hw⟩ := hw
    have e9 := he.symm.trans ez
    subst e9
    refine vx_catch (own := RL) (name := eIA) (E := eIA) hown [⟨0, 9, 12, 21⟩] ⟨0, 9, 16, 13⟩ [] hex (fun z hz => by rcases List.mem_singleton.mp hz with rfl; exact Or.inr ⟨by decide, eIO, hts _ m_270, hCIAIO⟩) (by decide) (by decide) (hts _ m_173) (hX.use (by decide +kernel)) hce hcv hcl ?_
    refine lv_astore (lv' := [(4, .ref q9), (0, .ref (h 0)), (1, .int p1), (2, .int p2), (3, .ref (h 45))]) hx hb d_L_cut_16 hl (by decide) rfl (fun ls hl => ?_)
    refine lv_iconst (v := 2) hx hb d_L_cut_18 (by decide) ?_
    exact W.iret (v := 2) hx hb hr (fun t ht hW => ⟨⟨2, (QS.set_x st u4), rfl, hw, by rw [ht]; exact hP, hD⟩, hS.F ht⟩) hS.2.2 d_L_cut_19
  · obtain ⟨hP1, hD1⟩ := hB
    rw [ht] at hP1
    obtain ⟨hP, hD⟩ := va_swapT (pre := [(h 45, .inl (k 45, 1, .inr (.inl (QS.o st))))]) hP hD hk1 hP1 (wc_addr _ _ _ _)
    generalize H1 = H at hP hS ⊢
    have hP : va_P (dC, dI) vwCl (WL h k (QS.set_x st u1)) H := hP
    have hD : va_D A (WL h k (QS.set_x st u1)) := hD
    refine va_last hx hb hK hP hD hS 0 0 rfl rfl (by unfold vp_in; decide) d_L_cut_8 (fun H locs hP hD hS => ?_)
    have hP : va_P (dC, dI) vwCl (WL h k (QS.set_o (QS.set_x st u1) (vp_updL (QS.o st) (0 : Int32).toNatClampNeg r2))) H := hP
    have hD : va_D A (WL h k (QS.set_o (QS.set_x st u1) (vp_updL (QS.o st) (0 : Int32).toNatClampNeg r2))) := hD
    refine lv_goto (tgt := 20) hx hb d_L_cut_9 (by decide) ?_
    refine lv_iconst (v := 0) hx hb d_L_cut_20 (by decide) ?_
    exact W.iret (v := 0) hx hb hr (fun t ht hW => ⟨⟨0, (QS.set_o (QS.set_x st u1) (vp_updL (QS.o st) (0 : Int32).toNatClampNeg r2)), rfl, hw, by rw [ht]; exact hP, hD⟩, hS.F ht⟩) hS.2.2 d_L_cut_21
def w_L_curves (st : QS) (post : Int32 → QS → Prop) (p1 : Int32) : Prop := w_C_curves (QS.x st) (fun r2 u1 => (post 0 (QS.set_o (QS.set_x st u1) (vp_updL (QS.o st) (0 : Int32).toNatClampNeg r2.toInt64)))) (fun E3 u4 => (E3 = eIO ∧ (post 1 (QS.set_x st u4)))) p1
set_option maxHeartbeats 4000000 in
set_option maxRecDepth 100000 in
theorem t_L_curves (l : Launch) (hst : l.stackTraces = false) (dC : Nat → ClassId) (dI : Nat → Nat → Nat) (h : Nat → Nat) (k : Nat → ClassId) (sz : Nat) (st : QS) (p1 : Int32) {post : Int32 → QS → Prop} (hw : w_L_curves st post p1) : Met l y_L_curves (Cond.codeWith y_L_curves method_6_code 4 (some .int) [(0, 9, 12, 21)] :: cw) ({ frames := 7, cells := 1, slots := 6, locals := 103 } : Room) (va_Pc [.ref (h 0), .int p1, .ref (h 45)] (pRl (dC, dI) (WL h k st) (YL k) sz)) (va_Qi post (fun u t => va_P (dC, dI) vwCl (WL h k u) t.heap ∧ va_D (va_A (WL h k st) sz) (WL h k u)) (va_A (WL h k st) sz)) 1 6 (va_A (WL h k st) sz) := by
  refine va_MetW (hh := [(0, 9, 12, 21)]) (cc := method_6_code) (maxL := 4) (ret := (some .int)) (by decide) rfl ?_
  intro p e s m args below meth c s₁ B hml hv
  obtain ⟨rfl, ⟨⟨hsz, hP, hK, hN, hD0⟩, hX, hT, hZ⟩, hCISIA, hCIAIO⟩ := hv
  have hx := B.exec
  have hb := B.bytes
  have hr := B.returns
  have hts : ∀ w ∈ cw, w.before _ s = true := fun w h => atoms_spec (ws := (Cond.codeWith y_L_curves method_6_code 4 (some .int) [(0, 9, 12, 21)] :: cw)) B.pre w (List.mem_cons_of_mem _ h)
  have hown : s.vm.findClass RL = some m.cls := findClass_of_methodNamed B.named
  have hlocks := B.notSynchronized
  have hex : c.exceptionTable.toList = [⟨0, 9, 12, 21⟩] := vx_table (x := y_L_curves) B (atoms_spec (ws := (Cond.codeWith y_L_curves method_6_code 4 (some .int) [(0, 9, 12, 21)] :: cw)) B.pre _ List.mem_cons_self)
  have C0 : cxt p s m _ meth c method_6_code 4 RL (some .int) := ⟨hx, hb, hr, hml, hown, hts, hlocks⟩
  subst hsz
  have hD := hD0.self (sz := s.heap.size)
  generalize hAe : va_A (WL h k st) s.heap.size = A at hD hZ ⊢
  have hA : ∀ q : Nat, s.heap.size ≤ q → A q := fun q h => by rw [← hAe]; exact Or.inr h
  have hS : va_S A s.heap s.heap [] := va_S.rf
  have hl := lv_entry ([.ref (h 0), .int p1, .ref (h 45)]) (n := 4) (Nat.le_of_ble_eq_true rfl)
  rw [lg_entry_eq]
  generalize (lg_sl ([.ref (h 0), .int p1, .ref (h 45)]) ++ List.replicate (4 - (lg_sl ([.ref (h 0), .int p1, .ref (h 45)])).length) Slot.unset).toArray = ls at hl ⊢
  have hl : lv_has ls 4 [(0, .ref (h 0)), (1, .int p1), (2, .ref (h 45))] := hl
  unfold w_L_curves at hw
  refine lv_aload_n hx hb d_L_curves_0 rfl (lv_at hl 2 rfl) ?_
  refine lv_iconst (v := 0) hx hb d_L_curves_1 (by decide) ?_
  refine lv_aload_n hx hb d_L_curves_2 rfl (lv_at hl 0 rfl) ?_
  refine lv_iload_n hx hb d_L_curves_3 rfl (lv_at hl 1 rfl) ?_
  have hPc := va_P_r hP
  have hDc := va_D_r hD
  have hKc := hK.sub (tys' := YC k) [1, 2, 3, 4, 5, 6, 7, 8, 9, 10, 11, 12] rfl
  have hFc := va_freeA hDc hS hA
  refine vx_calli (vx_runV (As := [.int p1]) (rest := [.int 0, .ref (h 45)]) ⟨hx, hb, hml, hown, hts⟩ (t_C_curves l hst dC dI h k _ (QS.x st) p1 hw) (cwV 1 hts (gV m_310 m_311 m_312 m_1 (cw_call m_313)) rfl rfl rfl (by decide +kernel) ⟨Nat.le_of_ble_eq_true rfl, Nat.le_of_ble_eq_true rfl⟩) ⟨pRx_bl, va_recv hKc hPc (ci := 1) (q0 := 0) rfl rfl, fun U hU hW => ⟨rfl, pRx_at hPc hKc hN hDc hX hT hZ hS hFc hU hW⟩⟩ rfl rfl hl.1 rfl (lv_room (Nat.le_of_ble_eq_true rfl)) d_L_curves_4 ⟨Nat.le_of_ble_eq_true rfl, Nat.le_of_ble_eq_true rfl⟩) hS (fun q _ h => hFc q h) hFc (fun q _ h => hFc q h) (fun E ce q9 z t H1 locs ht hvm hw hB hz1 hk1 hS hce hcv hcl => ?_) (fun r2 u1 t H1 locs ht hvm hw hB hz1 hk1 hS => ?_)
  · obtain ⟨E3, u4⟩ := z
    obtain ⟨he, hP1, hD1⟩ := hB
    have he : E3 = E := he
    rw [ht] at hP1
    obtain ⟨hP, hD⟩ := va_swapT (pre := [(h 45, .inl (k 45, 1, .inr (.inl (QS.o st))))]) hP hD hk1 hP1 (wc_addr _ _ _ _)
    generalize H1 = H at hP hS hce ⊢
    have hP : va_P (dC, dI) vwCl (WL h k (QS.set_x st u4)) H := hP
    have hD : va_D A (WL h k (QS.set_x st u4)) := hD
    obtain ⟨ez, hw⟩ := hw
    have e9 := he.symm.trans ez
    subst e9
    refine vx_catch (own := RL) (name := eIO) (E := eIO) hown [] ⟨0, 9, 12, 21⟩ [] hex (fun _ h9 => absurd h9 List.not_mem_nil) (by decide) (by decide) (hts _ m_270) (hX.use (by decide +kernel)) hce hcv hcl ?_
    refine lv_astore_n (lv' := [(3, .ref q9), (0, .ref (h 0)), (1, .int p1), (2, .ref (h 45))]) hx hb d_L_curves_12 rfl hl (by decide) rfl (fun ls hl => ?_)
    refine lv_iconst (v := 1) hx hb d_L_curves_13 (by decide) ?_
    exact W.iret (v := 1) hx hb hr (fun t ht hW => ⟨⟨1, (QS.set_x st u4), rfl, hw, by rw [ht]; exact hP, hD⟩, hS.F ht⟩) hS.2.2 d_L_curves_14
  · obtain ⟨hP1, hD1⟩ := hB
    rw [ht] at hP1
    obtain ⟨hP, hD⟩ := va_swapT (pre := [(h 45, .inl (k 45, 1, .inr (.inl (QS.o st))))]) hP hD hk1 hP1 (wc_addr _ _ _ _)
    generalize H1 = H at hP hS ⊢
    have hP : va_P (dC, dI) vwCl (WL h k (QS.set_x st u1)) H := hP
    have hD : va_D A (WL h k (QS.set_x st u1)) := hD
    refine lv_i2l (v := r2.toInt64) hx hb d_L_curves_7 rfl ?_
    refine va_last hx hb hK hP hD hS 0 0 rfl rfl (by unfold vp_in; decide) d_L_curves_8 (fun H locs hP hD hS => ?_)
    have hP : va_P (dC, dI) vwCl (WL h k (QS.set_o (QS.set_x st u1) (vp_updL (QS.o st) (0 : Int32).toNatClampNeg r2.toInt64))) H := hP
    have hD : va_D A (WL h k (QS.set_o (QS.set_x st u1) (vp_updL (QS.o st) (0 : Int32).toNatClampNeg r2.toInt64))) := hD
    refine lv_goto (tgt := 15) hx hb d_L_curves_9 (by decide) ?_
    refine lv_iconst (v := 0) hx hb d_L_curves_15 (by decide) ?_
    exact W.iret (v := 0) hx hb hr (fun t ht hW => ⟨⟨0, (QS.set_o (QS.set_x st u1) (vp_updL (QS.o st) (0 : Int32).toNatClampNeg r2.toInt64)), rfl, hw, by rw [ht]; exact hP, hD⟩, hS.F ht⟩) hS.2.2 d_L_curves_16
def w_L_cell (st : QS) (post : Int32 → QS → Prop) (p1 : Int32) (p2 : Int32) : Prop := w_C_cell (QS.x st) (fun r2 u1 => (post 0 (QS.set_o (QS.set_x st u1) (vp_updL (QS.o st) (0 : Int32).toNatClampNeg r2.toInt64)))) (fun E3 u4 => ((E3 = eIO ∧ (post 1 (QS.set_x st u4))) ∨ (E3 = eIA ∧ (post 2 (QS.set_x st u4))))) p1 p2
set_option maxHeartbeats 4000000 in
set_option maxRecDepth 100000 in
theorem t_L_cell (l : Launch) (hst : l.stackTraces = false) (dC : Nat → ClassId) (dI : Nat → Nat → Nat) (h : Nat → Nat) (k : Nat → ClassId) (sz : Nat) (st : QS) (p1 : Int32) (p2 : Int32) {post : Int32 → QS → Prop} (hw : w_L_cell st post p1 p2) : Met l y_L_cell (Cond.codeWith y_L_cell method_7_code 5 (some .int) [(0, 10, 13, 21), (0, 10, 17, 13)] :: cw) ({ frames := 7, cells := 1, slots := 6, locals := 106 } : Room) (va_Pc [.ref (h 0), .int p1, .int p2, .ref (h 45)] (pRl (dC, dI) (WL h k st) (YL k) sz)) (va_Qi post (fun u t => va_P (dC, dI) vwCl (WL h k u) t.heap ∧ va_D (va_A (WL h k st) sz) (WL h k u)) (va_A (WL h k st) sz)) 1 6 (va_A (WL h k st) sz) := by
  refine va_MetW (hh := [(0, 10, 13, 21), (0, 10, 17, 13)]) (cc := method_7_code) (maxL := 5) (ret := (some .int)) (by decide) rfl ?_
  intro p e s m args below meth c s₁ B hml hv
  obtain ⟨rfl, ⟨⟨hsz, hP, hK, hN, hD0⟩, hX, hT, hZ⟩, hCISIA, hCIAIO⟩ := hv
  have hx := B.exec
  have hb := B.bytes
  have hr := B.returns
  have hts : ∀ w ∈ cw, w.before _ s = true := fun w h => atoms_spec (ws := (Cond.codeWith y_L_cell method_7_code 5 (some .int) [(0, 10, 13, 21), (0, 10, 17, 13)] :: cw)) B.pre w (List.mem_cons_of_mem _ h)
  have hown : s.vm.findClass RL = some m.cls := findClass_of_methodNamed B.named
  have hlocks := B.notSynchronized
  have hex : c.exceptionTable.toList = [⟨0, 10, 13, 21⟩, ⟨0, 10, 17, 13⟩] := vx_table (x := y_L_cell) B (atoms_spec (ws := (Cond.codeWith y_L_cell method_7_code 5 (some .int) [(0, 10, 13, 21), (0, 10, 17, 13)] :: cw)) B.pre _ List.mem_cons_self)
  have C0 : cxt p s m _ meth c method_7_code 5 RL (some .int) := ⟨hx, hb, hr, hml, hown, hts, hlocks⟩
  subst hsz
  have hD := hD0.self (sz := s.heap.size)
  generalize hAe : va_A (WL h k st) s.heap.size = A at hD hZ ⊢
  have hA : ∀ q : Nat, s.heap.size ≤ q → A q := fun q h => by rw [← hAe]; exact Or.inr h
  have hS : va_S A s.heap s.heap [] := va_S.rf
  have hl := lv_entry ([.ref (h 0), .int p1, .int p2, .ref (h 45)]) (n := 5) (Nat.le_of_ble_eq_true rfl)
  rw [lg_entry_eq]
  generalize (lg_sl ([.ref (h 0), .int p1, .int p2, .ref (h 45)]) ++ List.replicate (5 - (lg_sl ([.ref (h 0), .int p1, .int p2, .ref (h 45)])).length) Slot.unset).toArray = ls at hl ⊢
  have hl : lv_has ls 5 [(0, .ref (h 0)), (1, .int p1), (2, .int p2), (3, .ref (h 45))] := hl
  unfold w_L_cell at hw
  refine lv_aload_n hx hb d_L_cell_0 rfl (lv_at hl 3 rfl) ?_
  refine lv_iconst (v := 0) hx hb d_L_cell_1 (by decide) ?_
  refine lv_aload_n hx hb d_L_cell_2 rfl (lv_at hl 0 rfl) ?_
  refine lv_iload_n hx hb d_L_cell_3 rfl (lv_at hl 1 rfl) ?_
  refine lv_iload_n hx hb d_L_cell_4 rfl (lv_at hl 2 rfl) ?_
  have hPc := va_P_r hP
  have hDc := va_D_r hD
  have hKc := hK.sub (tys' := YC k) [1, 2, 3, 4, 5, 6, 7, 8, 9, 10, 11, 12] rfl
  have hFc := va_freeA hDc hS hA
  refine vx_calli (vx_runV (As := [.int p1, .int p2]) (rest := [.int 0, .ref (h 45)]) ⟨hx, hb, hml, hown, hts⟩ (t_C_cell l hst dC dI h k _ (QS.x st) p1 p2 hw) (cwV 2 hts (gV m_318 m_319 m_320 m_1 (cw_call m_321)) rfl rfl rfl (by decide +kernel) ⟨Nat.le_of_ble_eq_true rfl, Nat.le_of_ble_eq_true rfl⟩) ⟨pRx_bl, va_recv hKc hPc (ci := 1) (q0 := 0) rfl rfl, fun U hU hW => ⟨rfl, pRx_at hPc hKc hN hDc hX hT hZ hS hFc hU hW⟩⟩ rfl rfl hl.1 rfl (lv_room (Nat.le_of_ble_eq_true rfl)) d_L_cell_5 ⟨Nat.le_of_ble_eq_true rfl, Nat.le_of_ble_eq_true rfl⟩) hS (fun q _ h => hFc q h) hFc (fun q _ h => hFc q h) (fun E ce q9 z t H1 locs ht hvm hw hB hz1 hk1 hS hce hcv hcl => ?_) (fun r2 u1 t H1 locs ht hvm hw hB hz1 hk1 hS => ?_)
  · obtain ⟨E3, u4⟩ := z
    obtain ⟨he, hP1, hD1⟩ := hB
    have he : E3 = E := he
    rw [ht] at hP1
    obtain ⟨hP, hD⟩ := va_swapT (pre := [(h 45, .inl (k 45, 1, .inr (.inl (QS.o st))))]) hP hD hk1 hP1 (wc_addr _ _ _ _)
    generalize H1 = H at hP hS hce ⊢
    have hP : va_P (dC, dI) vwCl (WL h k (QS.set_x st u4)) H := hP
    have hD : va_D A (WL h k (QS.set_x st u4)) := hD
    rcases hw with ⟨ez, hw⟩ | hw
    · have e9 := he.symm.trans ez
      subst e9
      refine vx_catch (own := RL) (name := eIO) (E := eIO) hown [] ⟨0, 10, 13, 21⟩ [⟨0, 10, 17, 13⟩] hex (fun _ h9 => absurd h9 List.not_mem_nil) (by decide) (by decide) (hts _ m_270) (hX.use (by decide +kernel)) hce hcv hcl ?_
      refine lv_astore (lv' := [(4, .ref q9), (0, .ref (h 0)), (1, .int p1), (2, .int p2), (3, .ref (h 45))]) hx hb d_L_cell_13 hl (by decide) rfl (fun ls hl => ?_)
      refine lv_iconst (v := 1) hx hb d_L_cell_15 (by decide) ?_
      exact W.iret (v := 1) hx hb hr (fun t ht hW => ⟨⟨1, (QS.set_x st u4), rfl, hw, by rw [ht]; exact hP, hD⟩, hS.F ht⟩) hS.2.2 d_L_cell_16
    obtain ⟨ez, hw⟩ := hw
    have e9 := he.symm.trans ez
    subst e9
    refine vx_catch (own := RL) (name := eIA) (E := eIA) hown [⟨0, 10, 13, 21⟩] ⟨0, 10, 17, 13⟩ [] hex (fun z hz => by rcases List.mem_singleton.mp hz with rfl; exact Or.inr ⟨by decide, eIO, hts _ m_270, hCIAIO⟩) (by decide) (by decide) (hts _ m_173) (hX.use (by decide +kernel)) hce hcv hcl ?_
    refine lv_astore (lv' := [(4, .ref q9), (0, .ref (h 0)), (1, .int p1), (2, .int p2), (3, .ref (h 45))]) hx hb d_L_cell_17 hl (by decide) rfl (fun ls hl => ?_)
    refine lv_iconst (v := 2) hx hb d_L_cell_19 (by decide) ?_
    exact W.iret (v := 2) hx hb hr (fun t ht hW => ⟨⟨2, (QS.set_x st u4), rfl, hw, by rw [ht]; exact hP, hD⟩, hS.F ht⟩) hS.2.2 d_L_cell_20
  · obtain ⟨hP1, hD1⟩ := hB
    rw [ht] at hP1
    obtain ⟨hP, hD⟩ := va_swapT (pre := [(h 45, .inl (k 45, 1, .inr (.inl (QS.o st))))]) hP hD hk1 hP1 (wc_addr _ _ _ _)
    generalize H1 = H at hP hS ⊢
    have hP : va_P (dC, dI) vwCl (WL h k (QS.set_x st u1)) H := hP
    have hD : va_D A (WL h k (QS.set_x st u1)) := hD
    refine lv_i2l (v := r2.toInt64) hx hb d_L_cell_8 rfl ?_
    refine va_last hx hb hK hP hD hS 0 0 rfl rfl (by unfold vp_in; decide) d_L_cell_9 (fun H locs hP hD hS => ?_)
    have hP : va_P (dC, dI) vwCl (WL h k (QS.set_o (QS.set_x st u1) (vp_updL (QS.o st) (0 : Int32).toNatClampNeg r2.toInt64))) H := hP
    have hD : va_D A (WL h k (QS.set_o (QS.set_x st u1) (vp_updL (QS.o st) (0 : Int32).toNatClampNeg r2.toInt64))) := hD
    refine lv_goto (tgt := 21) hx hb d_L_cell_10 (by decide) ?_
    refine lv_iconst (v := 0) hx hb d_L_cell_21 (by decide) ?_
    exact W.iret (v := 0) hx hb hr (fun t ht hW => ⟨⟨0, (QS.set_o (QS.set_x st u1) (vp_updL (QS.o st) (0 : Int32).toNatClampNeg r2.toInt64)), rfl, hw, by rw [ht]; exact hP, hD⟩, hS.F ht⟩) hS.2.2 d_L_cell_22
def w_L_sample (st : QS) (post : Int32 → QS → Prop) (p1 : Int32) (p2 : Int32) (p3 : Int32) : Prop := w_C_sample (QS.x st) (fun r2 u1 => (post 0 (QS.set_o (QS.set_x st u1) (vp_updL (QS.o st) (0 : Int32).toNatClampNeg r2)))) (fun E3 u4 => ((E3 = eIO ∧ (post 1 (QS.set_x st u4))) ∨ (E3 = eIA ∧ (post 2 (QS.set_x st u4))))) p1 p2 p3
set_option maxHeartbeats 4000000 in
set_option maxRecDepth 100000 in
theorem t_L_sample (l : Launch) (hst : l.stackTraces = false) (dC : Nat → ClassId) (dI : Nat → Nat → Nat) (h : Nat → Nat) (k : Nat → ClassId) (sz : Nat) (st : QS) (p1 : Int32) (p2 : Int32) (p3 : Int32) {post : Int32 → QS → Prop} (hw : w_L_sample st post p1 p2 p3) : Met l y_L_sample (Cond.codeWith y_L_sample method_8_code 6 (some .int) [(0, 11, 14, 21), (0, 11, 18, 13)] :: cw) ({ frames := 7, cells := 1, slots := 6, locals := 128 } : Room) (va_Pc [.ref (h 0), .int p1, .int p2, .int p3, .ref (h 45)] (pRl (dC, dI) (WL h k st) (YL k) sz)) (va_Qi post (fun u t => va_P (dC, dI) vwCl (WL h k u) t.heap ∧ va_D (va_A (WL h k st) sz) (WL h k u)) (va_A (WL h k st) sz)) 1 6 (va_A (WL h k st) sz) := by
  refine va_MetW (hh := [(0, 11, 14, 21), (0, 11, 18, 13)]) (cc := method_8_code) (maxL := 6) (ret := (some .int)) (by decide) rfl ?_
  intro p e s m args below meth c s₁ B hml hv
  obtain ⟨rfl, ⟨⟨hsz, hP, hK, hN, hD0⟩, hX, hT, hZ⟩, hCISIA, hCIAIO⟩ := hv
  have hx := B.exec
  have hb := B.bytes
  have hr := B.returns
  have hts : ∀ w ∈ cw, w.before _ s = true := fun w h => atoms_spec (ws := (Cond.codeWith y_L_sample method_8_code 6 (some .int) [(0, 11, 14, 21), (0, 11, 18, 13)] :: cw)) B.pre w (List.mem_cons_of_mem _ h)
  have hown : s.vm.findClass RL = some m.cls := findClass_of_methodNamed B.named
  have hlocks := B.notSynchronized
  have hex : c.exceptionTable.toList = [⟨0, 11, 14, 21⟩, ⟨0, 11, 18, 13⟩] := vx_table (x := y_L_sample) B (atoms_spec (ws := (Cond.codeWith y_L_sample method_8_code 6 (some .int) [(0, 11, 14, 21), (0, 11, 18, 13)] :: cw)) B.pre _ List.mem_cons_self)
  have C0 : cxt p s m _ meth c method_8_code 6 RL (some .int) := ⟨hx, hb, hr, hml, hown, hts, hlocks⟩
  subst hsz
  have hD := hD0.self (sz := s.heap.size)
  generalize hAe : va_A (WL h k st) s.heap.size = A at hD hZ ⊢
  have hA : ∀ q : Nat, s.heap.size ≤ q → A q := fun q h => by rw [← hAe]; exact Or.inr h
  have hS : va_S A s.heap s.heap [] := va_S.rf
  have hl := lv_entry ([.ref (h 0), .int p1, .int p2, .int p3, .ref (h 45)]) (n := 6) (Nat.le_of_ble_eq_true rfl)
  rw [lg_entry_eq]
  generalize (lg_sl ([.ref (h 0), .int p1, .int p2, .int p3, .ref (h 45)]) ++ List.replicate (6 - (lg_sl ([.ref (h 0), .int p1, .int p2, .int p3, .ref (h 45)])).length) Slot.unset).toArray = ls at hl ⊢
  have hl : lv_has ls 6 [(0, .ref (h 0)), (1, .int p1), (2, .int p2), (3, .int p3), (4, .ref (h 45))] := hl
  unfold w_L_sample at hw
  refine lv_aload hx hb d_L_sample_0 (lv_at hl 4 rfl) ?_
  refine lv_iconst (v := 0) hx hb d_L_sample_2 (by decide) ?_
  refine lv_aload_n hx hb d_L_sample_3 rfl (lv_at hl 0 rfl) ?_
  refine lv_iload_n hx hb d_L_sample_4 rfl (lv_at hl 1 rfl) ?_
  refine lv_iload_n hx hb d_L_sample_5 rfl (lv_at hl 2 rfl) ?_
  refine lv_iload_n hx hb d_L_sample_6 rfl (lv_at hl 3 rfl) ?_
  have hPc := va_P_r hP
  have hDc := va_D_r hD
  have hKc := hK.sub (tys' := YC k) [1, 2, 3, 4, 5, 6, 7, 8, 9, 10, 11, 12] rfl
  have hFc := va_freeA hDc hS hA
  refine vx_calll (vx_runV (As := [.int p1, .int p2, .int p3]) (rest := [.int 0, .ref (h 45)]) ⟨hx, hb, hml, hown, hts⟩ (t_C_sample l hst dC dI h k _ (QS.x st) p1 p2 p3 hw) (cwV 3 hts (gV m_335 m_336 m_337 m_1 (cw_call m_338)) rfl rfl rfl (by decide +kernel) ⟨Nat.le_of_ble_eq_true rfl, Nat.le_of_ble_eq_true rfl⟩) ⟨pRx_bl, va_recv hKc hPc (ci := 1) (q0 := 0) rfl rfl, fun U hU hW => ⟨rfl, pRx_at hPc hKc hN hDc hX hT hZ hS hFc hU hW⟩⟩ rfl rfl hl.1 rfl (lv_room (Nat.le_of_ble_eq_true rfl)) d_L_sample_7 ⟨Nat.le_of_ble_eq_true rfl, Nat.le_of_ble_eq_true rfl⟩) hS (fun q _ h => hFc q h) hFc (fun q _ h => hFc q h) (fun E ce q9 z t H1 locs ht hvm hw hB hz1 hk1 hS hce hcv hcl => ?_) (fun r2 u1 t H1 locs ht hvm hw hB hz1 hk1 hS => ?_)
  · obtain ⟨E3, u4⟩ := z
    obtain ⟨he, hP1, hD1⟩ := hB
    have he : E3 = E := he
    rw [ht] at hP1
    obtain ⟨hP, hD⟩ := va_swapT (pre := [(h 45, .inl (k 45, 1, .inr (.inl (QS.o st))))]) hP hD hk1 hP1 (wc_addr _ _ _ _)
    generalize H1 = H at hP hS hce ⊢
    have hP : va_P (dC, dI) vwCl (WL h k (QS.set_x st u4)) H := hP
    have hD : va_D A (WL h k (QS.set_x st u4)) := hD
    rcases hw with ⟨ez, hw⟩ | hw
    · have e9 := he.symm.trans ez
      subst e9
      refine vx_catch (own := RL) (name := eIO) (E := eIO) hown [] ⟨0, 11, 14, 21⟩ [⟨0, 11, 18, 13⟩] hex (fun _ h9 => absurd h9 List.not_mem_nil) (by decide) (by decide) (hts _ m_270) (hX.use (by decide +kernel)) hce hcv hcl ?_
      refine lv_astore (lv' := [(5, .ref q9), (0, .ref (h 0)), (1, .int p1), (2, .int p2), (3, .int p3), (4, .ref (h 45))]) hx hb d_L_sample_14 hl (by decide) rfl (fun ls hl => ?_)
      refine lv_iconst (v := 1) hx hb d_L_sample_16 (by decide) ?_
      exact W.iret (v := 1) hx hb hr (fun t ht hW => ⟨⟨1, (QS.set_x st u4), rfl, hw, by rw [ht]; exact hP, hD⟩, hS.F ht⟩) hS.2.2 d_L_sample_17
    obtain ⟨ez, hw⟩ := hw
    have e9 := he.symm.trans ez
    subst e9
    refine vx_catch (own := RL) (name := eIA) (E := eIA) hown [⟨0, 11, 14, 21⟩] ⟨0, 11, 18, 13⟩ [] hex (fun z hz => by rcases List.mem_singleton.mp hz with rfl; exact Or.inr ⟨by decide, eIO, hts _ m_270, hCIAIO⟩) (by decide) (by decide) (hts _ m_173) (hX.use (by decide +kernel)) hce hcv hcl ?_
    refine lv_astore (lv' := [(5, .ref q9), (0, .ref (h 0)), (1, .int p1), (2, .int p2), (3, .int p3), (4, .ref (h 45))]) hx hb d_L_sample_18 hl (by decide) rfl (fun ls hl => ?_)
    refine lv_iconst (v := 2) hx hb d_L_sample_20 (by decide) ?_
    exact W.iret (v := 2) hx hb hr (fun t ht hW => ⟨⟨2, (QS.set_x st u4), rfl, hw, by rw [ht]; exact hP, hD⟩, hS.F ht⟩) hS.2.2 d_L_sample_21
  · obtain ⟨hP1, hD1⟩ := hB
    rw [ht] at hP1
    obtain ⟨hP, hD⟩ := va_swapT (pre := [(h 45, .inl (k 45, 1, .inr (.inl (QS.o st))))]) hP hD hk1 hP1 (wc_addr _ _ _ _)
    generalize H1 = H at hP hS ⊢
    have hP : va_P (dC, dI) vwCl (WL h k (QS.set_x st u1)) H := hP
    have hD : va_D A (WL h k (QS.set_x st u1)) := hD
    refine va_last hx hb hK hP hD hS 0 0 rfl rfl (by unfold vp_in; decide) d_L_sample_10 (fun H locs hP hD hS => ?_)
    have hP : va_P (dC, dI) vwCl (WL h k (QS.set_o (QS.set_x st u1) (vp_updL (QS.o st) (0 : Int32).toNatClampNeg r2))) H := hP
    have hD : va_D A (WL h k (QS.set_o (QS.set_x st u1) (vp_updL (QS.o st) (0 : Int32).toNatClampNeg r2))) := hD
    refine lv_goto (tgt := 22) hx hb d_L_sample_11 (by decide) ?_
    refine lv_iconst (v := 0) hx hb d_L_sample_22 (by decide) ?_
    exact W.iret (v := 0) hx hb hr (fun t ht hW => ⟨⟨0, (QS.set_o (QS.set_x st u1) (vp_updL (QS.o st) (0 : Int32).toNatClampNeg r2)), rfl, hw, by rw [ht]; exact hP, hD⟩, hS.F ht⟩) hS.2.2 d_L_sample_23
def w_L_sign (st : QS) (post : Int32 → QS → Prop) (p1 : Int32) (p2 : Int32) : Prop := w_C_sign (QS.x st) (fun r2 u1 => (post 0 (QS.set_o (QS.set_x st u1) (vp_updL (QS.o st) (0 : Int32).toNatClampNeg r2.toInt64)))) (fun E3 u4 => (E3 = eIO ∧ (post 1 (QS.set_x st u4)))) p1 p2
set_option maxHeartbeats 4000000 in
set_option maxRecDepth 100000 in
theorem t_L_sign (l : Launch) (hst : l.stackTraces = false) (dC : Nat → ClassId) (dI : Nat → Nat → Nat) (h : Nat → Nat) (k : Nat → ClassId) (sz : Nat) (st : QS) (p1 : Int32) (p2 : Int32) {post : Int32 → QS → Prop} (hw : w_L_sign st post p1 p2) : Met l y_L_sign (Cond.codeWith y_L_sign method_9_code 5 (some .int) [(0, 10, 13, 21)] :: cw) ({ frames := 7, cells := 1, slots := 6, locals := 105 } : Room) (va_Pc [.ref (h 0), .int p1, .int p2, .ref (h 45)] (pRl (dC, dI) (WL h k st) (YL k) sz)) (va_Qi post (fun u t => va_P (dC, dI) vwCl (WL h k u) t.heap ∧ va_D (va_A (WL h k st) sz) (WL h k u)) (va_A (WL h k st) sz)) 1 6 (va_A (WL h k st) sz) := by
  refine va_MetW (hh := [(0, 10, 13, 21)]) (cc := method_9_code) (maxL := 5) (ret := (some .int)) (by decide) rfl ?_
  intro p e s m args below meth c s₁ B hml hv
  obtain ⟨rfl, ⟨⟨hsz, hP, hK, hN, hD0⟩, hX, hT, hZ⟩, hCISIA, hCIAIO⟩ := hv
  have hx := B.exec
  have hb := B.bytes
  have hr := B.returns
  have hts : ∀ w ∈ cw, w.before _ s = true := fun w h => atoms_spec (ws := (Cond.codeWith y_L_sign method_9_code 5 (some .int) [(0, 10, 13, 21)] :: cw)) B.pre w (List.mem_cons_of_mem _ h)
  have hown : s.vm.findClass RL = some m.cls := findClass_of_methodNamed B.named
  have hlocks := B.notSynchronized
  have hex : c.exceptionTable.toList = [⟨0, 10, 13, 21⟩] := vx_table (x := y_L_sign) B (atoms_spec (ws := (Cond.codeWith y_L_sign method_9_code 5 (some .int) [(0, 10, 13, 21)] :: cw)) B.pre _ List.mem_cons_self)
  have C0 : cxt p s m _ meth c method_9_code 5 RL (some .int) := ⟨hx, hb, hr, hml, hown, hts, hlocks⟩
  subst hsz
  have hD := hD0.self (sz := s.heap.size)
  generalize hAe : va_A (WL h k st) s.heap.size = A at hD hZ ⊢
  have hA : ∀ q : Nat, s.heap.size ≤ q → A q := fun q h => by rw [← hAe]; exact Or.inr h
  have hS : va_S A s.heap s.heap [] := va_S.rf
  have hl := lv_entry ([.ref (h 0), .int p1, .int p2, .ref (h 45)]) (n := 5) (Nat.le_of_ble_eq_true rfl)
  rw [lg_entry_eq]
  generalize (lg_sl ([.ref (h 0), .int p1, .int p2, .ref (h 45)]) ++ List.replicate (5 - (lg_sl ([.ref (h 0), .int p1, .int p2, .ref (h 45)])).length) Slot.unset).toArray = ls at hl ⊢
  have hl : lv_has ls 5 [(0, .ref (h 0)), (1, .int p1), (2, .int p2), (3, .ref (h 45))] := hl
  unfold w_L_sign at hw
  refine lv_aload_n hx hb d_L_sign_0 rfl (lv_at hl 3 rfl) ?_
  refine lv_iconst (v := 0) hx hb d_L_sign_1 (by decide) ?_
  refine lv_aload_n hx hb d_L_sign_2 rfl (lv_at hl 0 rfl) ?_
  refine lv_iload_n hx hb d_L_sign_3 rfl (lv_at hl 1 rfl) ?_
  refine lv_iload_n hx hb d_L_sign_4 rfl (lv_at hl 2 rfl) ?_
  have hPc := va_P_r hP
  have hDc := va_D_r hD
  have hKc := hK.sub (tys' := YC k) [1, 2, 3, 4, 5, 6, 7, 8, 9, 10, 11, 12] rfl
  have hFc := va_freeA hDc hS hA
  refine vx_calli (vx_runV (As := [.int p1, .int p2]) (rest := [.int 0, .ref (h 45)]) ⟨hx, hb, hml, hown, hts⟩ (t_C_sign l hst dC dI h k _ (QS.x st) p1 p2 hw) (cwV 2 hts (gV m_343 m_344 m_345 m_1 (cw_call m_346)) rfl rfl rfl (by decide +kernel) ⟨Nat.le_of_ble_eq_true rfl, Nat.le_of_ble_eq_true rfl⟩) ⟨pRx_bl, va_recv hKc hPc (ci := 1) (q0 := 0) rfl rfl, fun U hU hW => ⟨rfl, pRx_at hPc hKc hN hDc hX hT hZ hS hFc hU hW⟩⟩ rfl rfl hl.1 rfl (lv_room (Nat.le_of_ble_eq_true rfl)) d_L_sign_5 ⟨Nat.le_of_ble_eq_true rfl, Nat.le_of_ble_eq_true rfl⟩) hS (fun q _ h => hFc q h) hFc (fun q _ h => hFc q h) (fun E ce q9 z t H1 locs ht hvm hw hB hz1 hk1 hS hce hcv hcl => ?_) (fun r2 u1 t H1 locs ht hvm hw hB hz1 hk1 hS => ?_)
  · obtain ⟨E3, u4⟩ := z
    obtain ⟨he, hP1, hD1⟩ := hB
    have he : E3 = E := he
    rw [ht] at hP1
    obtain ⟨hP, hD⟩ := va_swapT (pre := [(h 45, .inl (k 45, 1, .inr (.inl (QS.o st))))]) hP hD hk1 hP1 (wc_addr _ _ _ _)
    generalize H1 = H at hP hS hce ⊢
    have hP : va_P (dC, dI) vwCl (WL h k (QS.set_x st u4)) H := hP
    have hD : va_D A (WL h k (QS.set_x st u4)) := hD
    obtain ⟨ez, hw⟩ := hw
    have e9 := he.symm.trans ez
    subst e9
    refine vx_catch (own := RL) (name := eIO) (E := eIO) hown [] ⟨0, 10, 13, 21⟩ [] hex (fun _ h9 => absurd h9 List.not_mem_nil) (by decide) (by decide) (hts _ m_270) (hX.use (by decide +kernel)) hce hcv hcl ?_
    refine lv_astore (lv' := [(4, .ref q9), (0, .ref (h 0)), (1, .int p1), (2, .int p2), (3, .ref (h 45))]) hx hb d_L_sign_13 hl (by decide) rfl (fun ls hl => ?_)
    refine lv_iconst (v := 1) hx hb d_L_sign_15 (by decide) ?_
    exact W.iret (v := 1) hx hb hr (fun t ht hW => ⟨⟨1, (QS.set_x st u4), rfl, hw, by rw [ht]; exact hP, hD⟩, hS.F ht⟩) hS.2.2 d_L_sign_16
  · obtain ⟨hP1, hD1⟩ := hB
    rw [ht] at hP1
    obtain ⟨hP, hD⟩ := va_swapT (pre := [(h 45, .inl (k 45, 1, .inr (.inl (QS.o st))))]) hP hD hk1 hP1 (wc_addr _ _ _ _)
    generalize H1 = H at hP hS ⊢
    have hP : va_P (dC, dI) vwCl (WL h k (QS.set_x st u1)) H := hP
    have hD : va_D A (WL h k (QS.set_x st u1)) := hD
    refine lv_i2l (v := r2.toInt64) hx hb d_L_sign_8 rfl ?_
    refine va_last hx hb hK hP hD hS 0 0 rfl rfl (by unfold vp_in; decide) d_L_sign_9 (fun H locs hP hD hS => ?_)
    have hP : va_P (dC, dI) vwCl (WL h k (QS.set_o (QS.set_x st u1) (vp_updL (QS.o st) (0 : Int32).toNatClampNeg r2.toInt64))) H := hP
    have hD : va_D A (WL h k (QS.set_o (QS.set_x st u1) (vp_updL (QS.o st) (0 : Int32).toNatClampNeg r2.toInt64))) := hD
    refine lv_goto (tgt := 17) hx hb d_L_sign_10 (by decide) ?_
    refine lv_iconst (v := 0) hx hb d_L_sign_17 (by decide) ?_
    exact W.iret (v := 0) hx hb hr (fun t ht hW => ⟨⟨0, (QS.set_o (QS.set_x st u1) (vp_updL (QS.o st) (0 : Int32).toNatClampNeg r2.toInt64)), rfl, hw, by rw [ht]; exact hP, hD⟩, hS.F ht⟩) hS.2.2 d_L_sign_18
def w_L_at (st : QS) (post : Int32 → QS → Prop) (p1 : Int32) (p2 : Int32) (p3 : Int32) (p4 : Int32) : Prop := w_C_at (QS.x st) (fun r2 u1 => (post 0 (QS.set_o (QS.set_x st u1) (vp_updL (QS.o st) (0 : Int32).toNatClampNeg r2.toInt64)))) (fun E3 u4 => (E3 = eIA ∧ (post 1 (QS.set_x st u4)))) p1 p2 p3 p4
set_option maxHeartbeats 4000000 in
set_option maxRecDepth 100000 in
theorem t_L_at (l : Launch) (hst : l.stackTraces = false) (dC : Nat → ClassId) (dI : Nat → Nat → Nat) (h : Nat → Nat) (k : Nat → ClassId) (sz : Nat) (st : QS) (p1 : Int32) (p2 : Int32) (p3 : Int32) (p4 : Int32) {post : Int32 → QS → Prop} (hw : w_L_at st post p1 p2 p3 p4) : Met l y_L_at (Cond.codeWith y_L_at method_10_code 7 (some .int) [(0, 14, 17, 13)] :: cw) ({ frames := 7, cells := 1, slots := 6, locals := 125 } : Room) (va_Pc [.ref (h 0), .int p1, .int p2, .int p3, .int p4, .ref (h 45)] (pRl (dC, dI) (WL h k st) (YL k) sz)) (va_Qi post (fun u t => va_P (dC, dI) vwCl (WL h k u) t.heap ∧ va_D (va_A (WL h k st) sz) (WL h k u)) (va_A (WL h k st) sz)) 1 6 (va_A (WL h k st) sz) := by
  refine va_MetW (hh := [(0, 14, 17, 13)]) (cc := method_10_code) (maxL := 7) (ret := (some .int)) (by decide) rfl ?_
  intro p e s m args below meth c s₁ B hml hv
  obtain ⟨rfl, ⟨⟨hsz, hP, hK, hN, hD0⟩, hX, hT, hZ⟩, hCISIA, hCIAIO⟩ := hv
  have hx := B.exec
  have hb := B.bytes
  have hr := B.returns
  have hts : ∀ w ∈ cw, w.before _ s = true := fun w h => atoms_spec (ws := (Cond.codeWith y_L_at method_10_code 7 (some .int) [(0, 14, 17, 13)] :: cw)) B.pre w (List.mem_cons_of_mem _ h)
  have hown : s.vm.findClass RL = some m.cls := findClass_of_methodNamed B.named
  have hlocks := B.notSynchronized
  have hex : c.exceptionTable.toList = [⟨0, 14, 17, 13⟩] := vx_table (x := y_L_at) B (atoms_spec (ws := (Cond.codeWith y_L_at method_10_code 7 (some .int) [(0, 14, 17, 13)] :: cw)) B.pre _ List.mem_cons_self)
  have C0 : cxt p s m _ meth c method_10_code 7 RL (some .int) := ⟨hx, hb, hr, hml, hown, hts, hlocks⟩
  subst hsz
  have hD := hD0.self (sz := s.heap.size)
  generalize hAe : va_A (WL h k st) s.heap.size = A at hD hZ ⊢
  have hA : ∀ q : Nat, s.heap.size ≤ q → A q := fun q h => by rw [← hAe]; exact Or.inr h
  have hS : va_S A s.heap s.heap [] := va_S.rf
  have hl := lv_entry ([.ref (h 0), .int p1, .int p2, .int p3, .int p4, .ref (h 45)]) (n := 7) (Nat.le_of_ble_eq_true rfl)
  rw [lg_entry_eq]
  generalize (lg_sl ([.ref (h 0), .int p1, .int p2, .int p3, .int p4, .ref (h 45)]) ++ List.replicate (7 - (lg_sl ([.ref (h 0), .int p1, .int p2, .int p3, .int p4, .ref (h 45)])).length) Slot.unset).toArray = ls at hl ⊢
  have hl : lv_has ls 7 [(0, .ref (h 0)), (1, .int p1), (2, .int p2), (3, .int p3), (4, .int p4), (5, .ref (h 45))] := hl
  unfold w_L_at at hw
  refine lv_aload hx hb d_L_at_0 (lv_at hl 5 rfl) ?_
  refine lv_iconst (v := 0) hx hb d_L_at_2 (by decide) ?_
  refine lv_aload_n hx hb d_L_at_3 rfl (lv_at hl 0 rfl) ?_
  refine lv_iload_n hx hb d_L_at_4 rfl (lv_at hl 1 rfl) ?_
  refine lv_iload_n hx hb d_L_at_5 rfl (lv_at hl 2 rfl) ?_
  refine lv_iload_n hx hb d_L_at_6 rfl (lv_at hl 3 rfl) ?_
  refine lv_iload hx hb d_L_at_7 (lv_at hl 4 rfl) ?_
  have hPc := va_P_r hP
  have hDc := va_D_r hD
  have hKc := hK.sub (tys' := YC k) [1, 2, 3, 4, 5, 6, 7, 8, 9, 10, 11, 12] rfl
  have hFc := va_freeA hDc hS hA
  refine vx_calli (vx_runV (As := [.int p1, .int p2, .int p3, .int p4]) (rest := [.int 0, .ref (h 45)]) ⟨hx, hb, hml, hown, hts⟩ (t_C_at l hst dC dI h k _ (QS.x st) p1 p2 p3 p4 hw) (cwV 4 hts (gV m_350 m_351 m_352 m_1 (cw_call m_353)) rfl rfl rfl (by decide +kernel) ⟨Nat.le_of_ble_eq_true rfl, Nat.le_of_ble_eq_true rfl⟩) ⟨pRx_bl, va_recv hKc hPc (ci := 1) (q0 := 0) rfl rfl, fun U hU hW => ⟨rfl, pRx_at hPc hKc hN hDc hX hT hZ hS hFc hU hW⟩⟩ rfl rfl hl.1 rfl (lv_room (Nat.le_of_ble_eq_true rfl)) d_L_at_9 ⟨Nat.le_of_ble_eq_true rfl, Nat.le_of_ble_eq_true rfl⟩) hS (fun q _ h => hFc q h) hFc (fun q _ h => hFc q h) (fun E ce q9 z t H1 locs ht hvm hw hB hz1 hk1 hS hce hcv hcl => ?_) (fun r2 u1 t H1 locs ht hvm hw hB hz1 hk1 hS => ?_)
  · obtain ⟨E3, u4⟩ := z
    obtain ⟨he, hP1, hD1⟩ := hB
    have he : E3 = E := he
    rw [ht] at hP1
    obtain ⟨hP, hD⟩ := va_swapT (pre := [(h 45, .inl (k 45, 1, .inr (.inl (QS.o st))))]) hP hD hk1 hP1 (wc_addr _ _ _ _)
    generalize H1 = H at hP hS hce ⊢
    have hP : va_P (dC, dI) vwCl (WL h k (QS.set_x st u4)) H := hP
    have hD : va_D A (WL h k (QS.set_x st u4)) := hD
    obtain ⟨ez, hw⟩ := hw
    have e9 := he.symm.trans ez
    subst e9
    refine vx_catch (own := RL) (name := eIA) (E := eIA) hown [] ⟨0, 14, 17, 13⟩ [] hex (fun _ h9 => absurd h9 List.not_mem_nil) (by decide) (by decide) (hts _ m_173) (hX.use (by decide +kernel)) hce hcv hcl ?_
    refine lv_astore (lv' := [(6, .ref q9), (0, .ref (h 0)), (1, .int p1), (2, .int p2), (3, .int p3), (4, .int p4), (5, .ref (h 45))]) hx hb d_L_at_17 hl (by decide) rfl (fun ls hl => ?_)
    refine lv_iconst (v := 1) hx hb d_L_at_19 (by decide) ?_
    exact W.iret (v := 1) hx hb hr (fun t ht hW => ⟨⟨1, (QS.set_x st u4), rfl, hw, by rw [ht]; exact hP, hD⟩, hS.F ht⟩) hS.2.2 d_L_at_20
  · obtain ⟨hP1, hD1⟩ := hB
    rw [ht] at hP1
    obtain ⟨hP, hD⟩ := va_swapT (pre := [(h 45, .inl (k 45, 1, .inr (.inl (QS.o st))))]) hP hD hk1 hP1 (wc_addr _ _ _ _)
    generalize H1 = H at hP hS ⊢
    have hP : va_P (dC, dI) vwCl (WL h k (QS.set_x st u1)) H := hP
    have hD : va_D A (WL h k (QS.set_x st u1)) := hD
    refine lv_i2l (v := r2.toInt64) hx hb d_L_at_12 rfl ?_
    refine va_last hx hb hK hP hD hS 0 0 rfl rfl (by unfold vp_in; decide) d_L_at_13 (fun H locs hP hD hS => ?_)
    have hP : va_P (dC, dI) vwCl (WL h k (QS.set_o (QS.set_x st u1) (vp_updL (QS.o st) (0 : Int32).toNatClampNeg r2.toInt64))) H := hP
    have hD : va_D A (WL h k (QS.set_o (QS.set_x st u1) (vp_updL (QS.o st) (0 : Int32).toNatClampNeg r2.toInt64))) := hD
    refine lv_goto (tgt := 21) hx hb d_L_at_14 (by decide) ?_
    refine lv_iconst (v := 0) hx hb d_L_at_21 (by decide) ?_
    exact W.iret (v := 0) hx hb hr (fun t ht hW => ⟨⟨0, (QS.set_o (QS.set_x st u1) (vp_updL (QS.o st) (0 : Int32).toNatClampNeg r2.toInt64)), rfl, hw, by rw [ht]; exact hP, hD⟩, hS.F ht⟩) hS.2.2 d_L_at_22
def w_L_touch (st : QS) (post : Int32 → QS → Prop) (p1 : Int32) (p2 : Int32) : Prop := w_C_touch (QS.x st) (fun r2 u1 => ((r2 = 0 → (post 0 (QS.set_o (QS.set_x st u1) (vp_updL (QS.o st) (0 : Int32).toNatClampNeg 0)))) ∧ (¬ r2 = 0 → (post 0 (QS.set_o (QS.set_x st u1) (vp_updL (QS.o st) (0 : Int32).toNatClampNeg 1)))))) (fun E3 u4 => (E3 = eIO ∧ (post 1 (QS.set_x st u4)))) p1 p2
set_option maxHeartbeats 4000000 in
set_option maxRecDepth 100000 in
theorem t_L_touch (l : Launch) (hst : l.stackTraces = false) (dC : Nat → ClassId) (dI : Nat → Nat → Nat) (h : Nat → Nat) (k : Nat → ClassId) (sz : Nat) (st : QS) (p1 : Int32) (p2 : Int32) {post : Int32 → QS → Prop} (hw : w_L_touch st post p1 p2) : Met l y_L_touch (Cond.codeWith y_L_touch method_11_code 5 (some .int) [(0, 17, 20, 21)] :: cw) ({ frames := 7, cells := 1, slots := 6, locals := 108 } : Room) (va_Pc [.ref (h 0), .int p1, .int p2, .ref (h 45)] (pRl (dC, dI) (WL h k st) (YL k) sz)) (va_Qi post (fun u t => va_P (dC, dI) vwCl (WL h k u) t.heap ∧ va_D (va_A (WL h k st) sz) (WL h k u)) (va_A (WL h k st) sz)) 1 6 (va_A (WL h k st) sz) := by
  refine va_MetW (hh := [(0, 17, 20, 21)]) (cc := method_11_code) (maxL := 5) (ret := (some .int)) (by decide) rfl ?_
  intro p e s m args below meth c s₁ B hml hv
  obtain ⟨rfl, ⟨⟨hsz, hP, hK, hN, hD0⟩, hX, hT, hZ⟩, hCISIA, hCIAIO⟩ := hv
  have hx := B.exec
  have hb := B.bytes
  have hr := B.returns
  have hts : ∀ w ∈ cw, w.before _ s = true := fun w h => atoms_spec (ws := (Cond.codeWith y_L_touch method_11_code 5 (some .int) [(0, 17, 20, 21)] :: cw)) B.pre w (List.mem_cons_of_mem _ h)
  have hown : s.vm.findClass RL = some m.cls := findClass_of_methodNamed B.named
  have hlocks := B.notSynchronized
  have hex : c.exceptionTable.toList = [⟨0, 17, 20, 21⟩] := vx_table (x := y_L_touch) B (atoms_spec (ws := (Cond.codeWith y_L_touch method_11_code 5 (some .int) [(0, 17, 20, 21)] :: cw)) B.pre _ List.mem_cons_self)
  have C0 : cxt p s m _ meth c method_11_code 5 RL (some .int) := ⟨hx, hb, hr, hml, hown, hts, hlocks⟩
  subst hsz
  have hD := hD0.self (sz := s.heap.size)
  generalize hAe : va_A (WL h k st) s.heap.size = A at hD hZ ⊢
  have hA : ∀ q : Nat, s.heap.size ≤ q → A q := fun q h => by rw [← hAe]; exact Or.inr h
  have hS : va_S A s.heap s.heap [] := va_S.rf
  have hl := lv_entry ([.ref (h 0), .int p1, .int p2, .ref (h 45)]) (n := 5) (Nat.le_of_ble_eq_true rfl)
  rw [lg_entry_eq]
  generalize (lg_sl ([.ref (h 0), .int p1, .int p2, .ref (h 45)]) ++ List.replicate (5 - (lg_sl ([.ref (h 0), .int p1, .int p2, .ref (h 45)])).length) Slot.unset).toArray = ls at hl ⊢
  have hl : lv_has ls 5 [(0, .ref (h 0)), (1, .int p1), (2, .int p2), (3, .ref (h 45))] := hl
  unfold w_L_touch at hw
  refine lv_aload_n hx hb d_L_touch_0 rfl (lv_at hl 3 rfl) ?_
  refine lv_iconst (v := 0) hx hb d_L_touch_1 (by decide) ?_
  refine lv_aload_n hx hb d_L_touch_2 rfl (lv_at hl 0 rfl) ?_
  refine lv_iload_n hx hb d_L_touch_3 rfl (lv_at hl 1 rfl) ?_
  refine lv_iload_n hx hb d_L_touch_4 rfl (lv_at hl 2 rfl) ?_
  have hPc := va_P_r hP
  have hDc := va_D_r hD
  have hKc := hK.sub (tys' := YC k) [1, 2, 3, 4, 5, 6, 7, 8, 9, 10, 11, 12] rfl
  have hFc := va_freeA hDc hS hA
  refine vx_calli (vx_runV (As := [.int p1, .int p2]) (rest := [.int 0, .ref (h 45)]) ⟨hx, hb, hml, hown, hts⟩ (t_C_touch l hst dC dI h k _ (QS.x st) p1 p2 hw) (cwV 2 hts (gV m_362 m_363 m_364 m_1 (cw_call m_365)) rfl rfl rfl (by decide +kernel) ⟨Nat.le_of_ble_eq_true rfl, Nat.le_of_ble_eq_true rfl⟩) ⟨pRx_bl, va_recv hKc hPc (ci := 1) (q0 := 0) rfl rfl, fun U hU hW => ⟨rfl, pRx_at hPc hKc hN hDc hX hT hZ hS hFc hU hW⟩⟩ rfl rfl hl.1 rfl (lv_room (Nat.le_of_ble_eq_true rfl)) d_L_touch_5 ⟨Nat.le_of_ble_eq_true rfl, Nat.le_of_ble_eq_true rfl⟩) hS (fun q _ h => hFc q h) hFc (fun q _ h => hFc q h) (fun E ce q9 z t H1 locs ht hvm hw hB hz1 hk1 hS hce hcv hcl => ?_) (fun r2 u1 t H1 locs ht hvm hw hB hz1 hk1 hS => ?_)
  · obtain ⟨E3, u4⟩ := z
    obtain ⟨he, hP1, hD1⟩ := hB
    have he : E3 = E := he
    rw [ht] at hP1
    obtain ⟨hP, hD⟩ := va_swapT (pre := [(h 45, .inl (k 45, 1, .inr (.inl (QS.o st))))]) hP hD hk1 hP1 (wc_addr _ _ _ _)
    generalize H1 = H at hP hS hce ⊢
    have hP : va_P (dC, dI) vwCl (WL h k (QS.set_x st u4)) H := hP
    have hD : va_D A (WL h k (QS.set_x st u4)) := hD
    obtain ⟨ez, hw⟩ := hw
    have e9 := he.symm.trans ez
    subst e9
    refine vx_catch (own := RL) (name := eIO) (E := eIO) hown [] ⟨0, 17, 20, 21⟩ [] hex (fun _ h9 => absurd h9 List.not_mem_nil) (by decide) (by decide) (hts _ m_270) (hX.use (by decide +kernel)) hce hcv hcl ?_
    refine lv_astore (lv' := [(4, .ref q9), (0, .ref (h 0)), (1, .int p1), (2, .int p2), (3, .ref (h 45))]) hx hb d_L_touch_20 hl (by decide) rfl (fun ls hl => ?_)
    refine lv_iconst (v := 1) hx hb d_L_touch_22 (by decide) ?_
    exact W.iret (v := 1) hx hb hr (fun t ht hW => ⟨⟨1, (QS.set_x st u4), rfl, hw, by rw [ht]; exact hP, hD⟩, hS.F ht⟩) hS.2.2 d_L_touch_23
  · obtain ⟨hP1, hD1⟩ := hB
    rw [ht] at hP1
    obtain ⟨hP, hD⟩ := va_swapT (pre := [(h 45, .inl (k 45, 1, .inr (.inl (QS.o st))))]) hP hD hk1 hP1 (wc_addr _ _ _ _)
    generalize H1 = H at hP hS ⊢
    have hP : va_P (dC, dI) vwCl (WL h k (QS.set_x st u1)) H := hP
    have hD : va_D A (WL h k (QS.set_x st u1)) := hD
    refine lv_if_eq (tgt := 15) hx hb d_L_touch_8 (by decide) (fun c5 => ?_) (fun c5 => ?_)
    · skip
      have hw := hw.1 c5
      refine lv_lconst (v := 0) hx hb d_L_touch_15 (by decide) ?_
      refine va_last hx hb hK hP hD hS 0 0 rfl rfl (by unfold vp_in; decide) d_L_touch_16 (fun H locs hP hD hS => ?_)
      have hP : va_P (dC, dI) vwCl (WL h k (QS.set_o (QS.set_x st u1) (vp_updL (QS.o st) (0 : Int32).toNatClampNeg 0))) H := hP
      have hD : va_D A (WL h k (QS.set_o (QS.set_x st u1) (vp_updL (QS.o st) (0 : Int32).toNatClampNeg 0))) := hD
      refine lv_goto (tgt := 24) hx hb d_L_touch_17 (by decide) ?_
      refine lv_iconst (v := 0) hx hb d_L_touch_24 (by decide) ?_
      exact W.iret (v := 0) hx hb hr (fun t ht hW => ⟨⟨0, (QS.set_o (QS.set_x st u1) (vp_updL (QS.o st) (0 : Int32).toNatClampNeg 0)), rfl, hw, by rw [ht]; exact hP, hD⟩, hS.F ht⟩) hS.2.2 d_L_touch_25
    · skip
      have hw := hw.2 c5
      refine lv_lconst (v := 1) hx hb d_L_touch_11 (by decide) ?_
      refine lv_goto (tgt := 16) hx hb d_L_touch_12 (by decide) ?_
      refine va_last hx hb hK hP hD hS 0 0 rfl rfl (by unfold vp_in; decide) d_L_touch_16 (fun H locs hP hD hS => ?_)
      have hP : va_P (dC, dI) vwCl (WL h k (QS.set_o (QS.set_x st u1) (vp_updL (QS.o st) (0 : Int32).toNatClampNeg 1))) H := hP
      have hD : va_D A (WL h k (QS.set_o (QS.set_x st u1) (vp_updL (QS.o st) (0 : Int32).toNatClampNeg 1))) := hD
      refine lv_goto (tgt := 24) hx hb d_L_touch_17 (by decide) ?_
      refine lv_iconst (v := 0) hx hb d_L_touch_24 (by decide) ?_
      exact W.iret (v := 0) hx hb hr (fun t ht hW => ⟨⟨0, (QS.set_o (QS.set_x st u1) (vp_updL (QS.o st) (0 : Int32).toNatClampNeg 1)), rfl, hw, by rw [ht]; exact hP, hD⟩, hS.F ht⟩) hS.2.2 d_L_touch_25
