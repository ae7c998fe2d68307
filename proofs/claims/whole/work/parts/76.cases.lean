set_option maxHeartbeats 4000000 in
set_option maxRecDepth 100000 in
theorem q_line {p : Program} {l : Launch} {e : Env} {s : State} {m : MethodId} {below : List Frame} {meth : Method} {c : Code} {b L : Nat} {xs : Nat → Int32} (hst : l.stackTraces = false) (C0 : lw_At p s m meth c b L xs) {dC : Nat → ClassId} {dI : Nat → Nat → Nat} {h h' : Nat → Nat} {k k' : Nat → ClassId} (hF : lwF s) (hK : va_K (dC, dI) vwCl (YL k ++ YM k') s) {x4 : Int32} (hi : ∀ j : Int32, j = 1 ∨ j = 2 ∨ j = 3 ∨ j = 4 → vp_in (x4 + j) L) {cc ss : Nat} (hcc : cc + 1 ≤ 643214) (hss : ss + 6 ≤ 7166462) (hk : lwK p l e s m below meth c b dC dI h k h' k' x4 (cc + 1) (ss + 6)) {st : QS} {ms : MS} (hI : bInv st ms) {H : Heap} {locs : List Loc} (hP : va_P (dC, dI) vwCl (WL h k st ++ WM h' k' ms) H) (hD : va_D (fun q : Nat => s.heap.size ≤ q) (WL h k st ++ WM h' k' ms)) (hS : va_S (fun q : Nat => s.heap.size ≤ q) s.heap H locs) {ls : Array Slot} (hl : lv_has ls 8 [(0, .ref b), (1, .ref (h 0)), (2, .ref (h' 0)), (3, .ref (h 45)), (4, .int x4)]) : W p l e room_1 s m #[Value.ref b] below meth c H locs cc ss (lw_Z below #[Value.ref b] s) (F0 m 104 ls []) := by
  obtain ⟨hx, hb, hr, hml, hown0, hts0, hX, hbl, hlocks, -⟩ := C0
  have hown : s.vm.findClass RL = some m.cls := hown0
  have hts : ∀ w ∈ cw, w.before #[Value.ref b] s = true := fun w hw => hts0 w (cw_in hw)
  obtain ⟨hN, hXn, hT, hZ, hC1, hC2⟩ := hF
  have hA : ∀ q : Nat, s.heap.size ≤ q → (fun q : Nat => s.heap.size ≤ q) q := fun _ h => h
  have hbA : ¬ (fun q : Nat => s.heap.size ≤ q) b := Nat.not_le.mpr hbl
  have hi1 := hi 1 (by decide)
  have hi2 := hi 2 (by decide)
  have hi3 := hi 3 (by decide)
  obtain ⟨cd, V, n1, a1, b1, c1, hwL, hwM⟩ := b_line hI (xs (x4 + 1).toNatClampNeg) (xs (x4 + 2).toNatClampNeg) (xs (x4 + 3).toNatClampNeg)
  refine lv_aload_n hx hb d_L_law_104 rfl (lv_at hl 1 rfl) ?_
  refine lv_aload_n hx hb d_L_law_105 rfl (lv_at hl 0 rfl) ?_
  refine lv_iload hx hb d_L_law_106 (lv_at hl 4 rfl) ?_
  refine lv_iconst (v := 1) hx hb d_L_law_108 (by decide) ?_
  refine lv_iadd hx hb d_L_law_109 ?_
  refine va_sld hx hb hX hbl hbA hS hi1 d_L_law_110 ?_
  refine lv_aload_n hx hb d_L_law_111 rfl (lv_at hl 0 rfl) ?_
  refine lv_iload hx hb d_L_law_112 (lv_at hl 4 rfl) ?_
  refine lv_iconst (v := 2) hx hb d_L_law_114 (by decide) ?_
  refine lv_iadd hx hb d_L_law_115 ?_
  refine va_sld hx hb hX hbl hbA hS hi2 d_L_law_116 ?_
  refine lv_aload_n hx hb d_L_law_117 rfl (lv_at hl 0 rfl) ?_
  refine lv_iload hx hb d_L_law_118 (lv_at hl 4 rfl) ?_
  refine lv_iconst (v := 3) hx hb d_L_law_120 (by decide) ?_
  refine lv_iadd hx hb d_L_law_121 ?_
  refine va_sld hx hb hX hbl hbA hS hi3 d_L_law_122 ?_
  refine lv_aload_n hx hb d_L_law_123 rfl (lv_at hl 3 rfl) ?_
  have hPc := va_P_l hP
  have hDc := va_D_l hD
  have hKc := hK.sub (tys' := YL k) [0, 1, 2, 3, 4, 5, 6, 7, 8, 9, 10, 11, 12] rfl
  have hFc := va_freeA hDc hS hA
  refine va_calli (vx_runSW (As := [.ref (h 0), .int (xs (x4 + 1).toNatClampNeg), .int (xs (x4 + 2).toNatClampNeg), .int (xs (x4 + 3).toNatClampNeg), .ref (h 45)]) (rest := []) ⟨hx, hb, hml, hown, hts⟩ (t_L_line l hst dC dI h k _ st (xs (x4 + 1).toNatClampNeg) (xs (x4 + 2).toNatClampNeg) (xs (x4 + 3).toNatClampNeg) hwL) (vx_cwSW 5 hts (gS m_170 m_171 m_0 (cw_call m_172)) rfl rfl rfl (by decide +kernel) ⟨Nat.le_of_ble_eq_true rfl, Nat.le_of_ble_eq_true rfl⟩) ⟨pRl_bl, fun U hU hW => ⟨rfl, pRx_at hPc hKc hN hDc hXn hT hZ hS hFc hU hW, va_Nc.moved hW.alike hC1, va_Nc.moved hW.alike hC2⟩⟩ rfl rfl hl.1 rfl (lv_room (Nat.le_of_ble_eq_true rfl)) d_L_law_124 ⟨by show cc + 1 ≤ 643214; omega, by show ss + 6 ≤ 7166462; omega⟩) hS (fun q _ h => hFc q h) hFc (fun r1 u1 t H1 locs ht hvm hw1 hB hz1 hk1 hS => ?_)
  obtain ⟨hP1, hD1⟩ := hB
  rw [ht] at hP1
  obtain ⟨hP, hD⟩ := va_swap (pre := []) (wc := WL h k st) (w1 := WL h k u1) (post := WM h' k' ms) hP hD hk1 hP1 rfl
  have hP : va_P (dC, dI) vwCl (WL h k u1 ++ WM h' k' ms) H1 := hP
  have hD : va_D (fun q : Nat => s.heap.size ≤ q) (WL h k u1 ++ WM h' k' ms) := hD
  refine lv_istore (lv' := [(5, .int r1), (0, .ref b), (1, .ref (h 0)), (2, .ref (h' 0)), (3, .ref (h 45)), (4, .int x4)]) hx hb d_L_law_127 hl (by decide) rfl (fun ls hl => ?_)
  refine lv_aload_n hx hb d_L_law_129 rfl (lv_at hl 3 rfl) ?_
  refine lv_aload_n hx hb d_L_law_130 rfl (lv_at hl 1 rfl) ?_
  refine lv_iload hx hb d_L_law_131 (lv_at hl 5 rfl) ?_
  refine lv_iconst (v := 1) hx hb d_L_law_133 (by decide) ?_
  refine lv_iadd hx hb d_L_law_134 ?_
  refine va_sld hx hb hX hbl hbA hS hi1 d_L_law_135 ?_
  refine lv_aload_n hx hb d_L_law_136 rfl (lv_at hl 1 rfl) ?_
  refine lv_iload hx hb d_L_law_137 (lv_at hl 5 rfl) ?_
  refine lv_iconst (v := 2) hx hb d_L_law_139 (by decide) ?_
  refine lv_iadd hx hb d_L_law_140 ?_
  refine va_sld hx hb hX hbl hbA hS hi2 d_L_law_141 ?_
  refine lv_aload_n hx hb d_L_law_142 rfl (lv_at hl 1 rfl) ?_
  refine lv_iload hx hb d_L_law_143 (lv_at hl 5 rfl) ?_
  refine lv_iconst (v := 3) hx hb d_L_law_145 (by decide) ?_
  refine lv_iadd hx hb d_L_law_146 ?_
  refine va_sld hx hb hX hbl hbA hS hi3 d_L_law_147 ?_
  have hPc := va_P_r hP
  have hKc := hK.sub (tys' := YM k') [13, 14, 15, 16, 17] rfl
  have hDc := va_D_r hD
  have hFc := va_freeA hDc hS hA
  refine va_calli (va_runV (As := [.int (xs (x4 + 1).toNatClampNeg), .int (xs (x4 + 2).toNatClampNeg), .int (xs (x4 + 3).toNatClampNeg)]) (rest := []) ⟨hx, hb, hml, hown, hts⟩ (t_M_line l dC dI h' k' _ ms (xs (x4 + 1).toNatClampNeg) (xs (x4 + 2).toNatClampNeg) (xs (x4 + 3).toNatClampNeg) hwM) (cwV 3 hts (gV m_426 m_427 m_428 m_5 (cw_call m_429)) rfl rfl rfl (by decide +kernel) ⟨Nat.le_of_ble_eq_true rfl, Nat.le_of_ble_eq_true rfl⟩) ⟨pRw_bl, va_recv hKc hPc (ci := 2) (q0 := 0) rfl rfl, fun U hU hW => ⟨rfl, pRw_at hPc hKc hN hDc hU hW⟩⟩ rfl rfl hl.1 rfl (lv_room (Nat.le_of_ble_eq_true rfl)) d_L_law_148 ⟨by show cc + 1 + 0 ≤ 643214; omega, by show ss + 6 + 0 ≤ 7166462; omega⟩) hS (fun q _ h => hFc q h) hFc (fun r2 u2 t H2 locs ht hvm hw2 hB hz1 hk1 hS => ?_)
  obtain ⟨hP1, hD1⟩ := hB
  rw [ht] at hP1
  obtain ⟨hP, hD⟩ := va_swapT (pre := WL h k u1) (wc := WM h' k' ms) (w1 := WM h' k' u2) hP hD hk1 hP1 rfl
  refine lv_istore (lv' := [(6, .int r2), (5, .int r1), (0, .ref b), (1, .ref (h 0)), (2, .ref (h' 0)), (3, .ref (h 45)), (4, .int x4)]) hx hb d_L_law_151 hl (by decide) rfl (fun ls hl => ?_)
  refine lv_aload_n hx hb d_L_law_153 rfl (lv_at hl 4 rfl) ?_
  have hPc := va_P_r hP
  have hKc := hK.sub (tys' := YM k') [13, 14, 15, 16, 17] rfl
  refine vp_callSi (va_Run.run (va_runV (As := []) (rest := []) ⟨hx, hb, hml, hown, hts⟩ (t_M_thrown l dC dI h' k' u2 (post := fun r => r = MS.code u2) rfl) (cwV 0 hts (gV m_422 m_423 m_424 m_5 (cw_call m_425)) rfl rfl rfl (by decide +kernel) ⟨Nat.le_of_ble_eq_true rfl, Nat.le_of_ble_eq_true rfl⟩) ⟨pRo_bl, va_recv hKc hPc (ci := 2) (q0 := 0) rfl rfl, fun U hU hW => ⟨rfl, pRo_at hPc hKc hN hU hW⟩⟩ rfl rfl hl.1 rfl (lv_room (Nat.le_of_ble_eq_true rfl)) d_L_law_154 ⟨by show cc + 1 + 0 ≤ 643214; omega, by show ss + 6 + 0 ≤ 7166462; omega⟩)) (fun r3 hw3 => ?_)
  refine lv_iload hx hb d_L_law_157 (lv_at hl 1 rfl) ?_
  refine lv_icmp_eq (tgt := 164) hx hb d_L_law_159 (by decide) (fun _ => ?_) (fun cz => absurd (hw3.trans (hw2.2.1.trans hw1.2.1.symm)) cz)
  refine lv_iload hx hb d_L_law_164 (lv_at hl 1 rfl) ?_
  refine lv_if_ne (tgt := 181) hx hb d_L_law_166 (by decide) (fun _ => ?_) (fun c5 => ?_)
  · skip
    refine lv_goto (tgt := 789) hx hb d_L_law_181 (by decide) ?_
    exact hk u1 u2 _ _ ls ⟨n1, a1, b1, c1, hw1.1, hw2.1⟩ hP hD hS (lv_sub hl [2, 3, 4, 5, 6] rfl)
  · have hz : cd = 0 := hw1.2.1.symm.trans c5
    refine lv_aload_n hx hb d_L_law_169 rfl (lv_at hl 5 rfl) ?_
    refine lv_iconst (v := 0) hx hb d_L_law_170 (by decide) ?_
    refine va_lald hx hb hK hP 0 0 rfl rfl (show vp_in (nI 0) 1 from vp_in_nI (by decide) (by decide)) d_L_law_171 ?_
    refine lv_iload hx hb d_L_law_172 (lv_at hl 0 rfl) ?_
    refine lv_i2l (v := r2.toInt64) hx hb d_L_law_174 rfl ?_
    refine W.lcmp hx hb d_L_law_175 ?_
    refine lv_if_eq (tgt := 181) hx hb d_L_law_176 (by decide) (fun _ => ?_) (fun cz => absurd (lgc_eq.mpr ((hw1.2.2 hz).trans (by rw [hw2.2.2 hz]))) cz)
    refine lv_goto (tgt := 789) hx hb d_L_law_181 (by decide) ?_
    exact hk u1 u2 _ _ ls ⟨n1, a1, b1, c1, hw1.1, hw2.1⟩ hP hD hS (lv_sub hl [2, 3, 4, 5, 6] rfl)
set_option maxHeartbeats 4000000 in
set_option maxRecDepth 100000 in
theorem q_drop {p : Program} {l : Launch} {e : Env} {s : State} {m : MethodId} {below : List Frame} {meth : Method} {c : Code} {b L : Nat} {xs : Nat → Int32} (hst : l.stackTraces = false) (C0 : lw_At p s m meth c b L xs) {dC : Nat → ClassId} {dI : Nat → Nat → Nat} {h h' : Nat → Nat} {k k' : Nat → ClassId} (hF : lwF s) (hK : va_K (dC, dI) vwCl (YL k ++ YM k') s) {x4 : Int32} (hi : ∀ j : Int32, j = 1 ∨ j = 2 ∨ j = 3 ∨ j = 4 → vp_in (x4 + j) L) {cc ss : Nat} (hcc : cc + 1 ≤ 643214) (hss : ss + 6 ≤ 7166462) (hk : lwK p l e s m below meth c b dC dI h k h' k' x4 (cc + 1) (ss + 6)) {st : QS} {ms : MS} (hI : bInv st ms) {H : Heap} {locs : List Loc} (hP : va_P (dC, dI) vwCl (WL h k st ++ WM h' k' ms) H) (hD : va_D (fun q : Nat => s.heap.size ≤ q) (WL h k st ++ WM h' k' ms)) (hS : va_S (fun q : Nat => s.heap.size ≤ q) s.heap H locs) {ls : Array Slot} (hl : lv_has ls 8 [(0, .ref b), (1, .ref (h 0)), (2, .ref (h' 0)), (3, .ref (h 45)), (4, .int x4)]) : W p l e room_1 s m #[Value.ref b] below meth c H locs cc ss (lw_Z below #[Value.ref b] s) (F0 m 184 ls []) := by
  obtain ⟨hx, hb, hr, hml, hown0, hts0, hX, hbl, hlocks, -⟩ := C0
  have hown : s.vm.findClass RL = some m.cls := hown0
  have hts : ∀ w ∈ cw, w.before #[Value.ref b] s = true := fun w hw => hts0 w (cw_in hw)
  obtain ⟨hN, hXn, hT, hZ, hC1, hC2⟩ := hF
  have hA : ∀ q : Nat, s.heap.size ≤ q → (fun q : Nat => s.heap.size ≤ q) q := fun _ h => h
  have hbA : ¬ (fun q : Nat => s.heap.size ≤ q) b := Nat.not_le.mpr hbl
  have hi1 := hi 1 (by decide)
  obtain ⟨cd, n1, a1, b1, c1, hwL, hwM⟩ := b_drop hI (xs (x4 + 1).toNatClampNeg)
  refine lv_aload_n hx hb d_L_law_184 rfl (lv_at hl 1 rfl) ?_
  refine lv_aload_n hx hb d_L_law_185 rfl (lv_at hl 0 rfl) ?_
  refine lv_iload hx hb d_L_law_186 (lv_at hl 4 rfl) ?_
  refine lv_iconst (v := 1) hx hb d_L_law_188 (by decide) ?_
  refine lv_iadd hx hb d_L_law_189 ?_
  refine va_sld hx hb hX hbl hbA hS hi1 d_L_law_190 ?_
  have hPc := va_P_l hP
  have hDc := va_D_l hD
  have hKc := hK.sub (tys' := YL k) [0, 1, 2, 3, 4, 5, 6, 7, 8, 9, 10, 11, 12] rfl
  have hFc := va_freeA hDc hS hA
  refine va_calli (vx_runSW (As := [.ref (h 0), .int (xs (x4 + 1).toNatClampNeg)]) (rest := []) ⟨hx, hb, hml, hown, hts⟩ (t_L_drop l hst dC dI h k _ st (xs (x4 + 1).toNatClampNeg) hwL) (vx_cwSW 2 hts (gS m_267 m_268 m_0 (cw_call m_269)) rfl rfl rfl (by decide +kernel) ⟨Nat.le_of_ble_eq_true rfl, Nat.le_of_ble_eq_true rfl⟩) ⟨pRl_bl, fun U hU hW => ⟨rfl, pRx_at hPc hKc hN hDc hXn hT hZ hS hFc hU hW, va_Nc.moved hW.alike hC1, va_Nc.moved hW.alike hC2⟩⟩ rfl rfl hl.1 rfl (lv_room (Nat.le_of_ble_eq_true rfl)) d_L_law_191 ⟨by show cc + 1 ≤ 643214; omega, by show ss + 6 ≤ 7166462; omega⟩) hS (fun q _ h => hFc q h) hFc (fun r1 u1 t H1 locs ht hvm hw1 hB hz1 hk1 hS => ?_)
  obtain ⟨hP1, hD1⟩ := hB
  rw [ht] at hP1
  obtain ⟨hP, hD⟩ := va_swap (pre := []) (wc := WL h k st) (w1 := WL h k u1) (post := WM h' k' ms) hP hD hk1 hP1 rfl
  have hP : va_P (dC, dI) vwCl (WL h k u1 ++ WM h' k' ms) H1 := hP
  have hD : va_D (fun q : Nat => s.heap.size ≤ q) (WL h k u1 ++ WM h' k' ms) := hD
  refine lv_istore (lv' := [(5, .int r1), (0, .ref b), (1, .ref (h 0)), (2, .ref (h' 0)), (3, .ref (h 45)), (4, .int x4)]) hx hb d_L_law_194 hl (by decide) rfl (fun ls hl => ?_)
  refine lv_aload_n hx hb d_L_law_196 rfl (lv_at hl 3 rfl) ?_
  refine lv_aload_n hx hb d_L_law_197 rfl (lv_at hl 1 rfl) ?_
  refine lv_iload hx hb d_L_law_198 (lv_at hl 5 rfl) ?_
  refine lv_iconst (v := 1) hx hb d_L_law_200 (by decide) ?_
  refine lv_iadd hx hb d_L_law_201 ?_
  refine va_sld hx hb hX hbl hbA hS hi1 d_L_law_202 ?_
  have hPc := va_P_r hP
  have hKc := hK.sub (tys' := YM k') [13, 14, 15, 16, 17] rfl
  have hDc := va_D_r hD
  have hFc := va_freeA hDc hS hA
  refine va_callv (va_runV (As := [.int (xs (x4 + 1).toNatClampNeg)]) (rest := []) ⟨hx, hb, hml, hown, hts⟩ (t_M_drop l dC dI h' k' _ ms (xs (x4 + 1).toNatClampNeg) hwM) (cwV 1 hts (gV m_447 m_448 m_449 m_5 (cw_call m_450)) rfl rfl rfl (by decide +kernel) ⟨Nat.le_of_ble_eq_true rfl, Nat.le_of_ble_eq_true rfl⟩) ⟨pRw_bl, va_recv hKc hPc (ci := 2) (q0 := 0) rfl rfl, fun U hU hW => ⟨rfl, pRw_at hPc hKc hN hDc hU hW⟩⟩ rfl rfl hl.1 rfl (lv_room (Nat.le_of_ble_eq_true rfl)) d_L_law_203 ⟨by show cc + 1 + 0 ≤ 643214; omega, by show ss + 6 + 0 ≤ 7166462; omega⟩) hS (fun q _ h => hFc q h) hFc (fun u2 t H2 locs ht hvm hw2 hB hz1 hk1 hS => ?_)
  obtain ⟨hP1, hD1⟩ := hB
  rw [ht] at hP1
  obtain ⟨hP, hD⟩ := va_swapT (pre := WL h k u1) (wc := WM h' k' ms) (w1 := WM h' k' u2) hP hD hk1 hP1 rfl
  refine lv_aload_n hx hb d_L_law_206 rfl (lv_at hl 3 rfl) ?_
  have hPc := va_P_r hP
  have hKc := hK.sub (tys' := YM k') [13, 14, 15, 16, 17] rfl
  refine vp_callSi (va_Run.run (va_runV (As := []) (rest := []) ⟨hx, hb, hml, hown, hts⟩ (t_M_thrown l dC dI h' k' u2 (post := fun r => r = MS.code u2) rfl) (cwV 0 hts (gV m_422 m_423 m_424 m_5 (cw_call m_425)) rfl rfl rfl (by decide +kernel) ⟨Nat.le_of_ble_eq_true rfl, Nat.le_of_ble_eq_true rfl⟩) ⟨pRo_bl, va_recv hKc hPc (ci := 2) (q0 := 0) rfl rfl, fun U hU hW => ⟨rfl, pRo_at hPc hKc hN hU hW⟩⟩ rfl rfl hl.1 rfl (lv_room (Nat.le_of_ble_eq_true rfl)) d_L_law_207 ⟨by show cc + 1 + 0 ≤ 643214; omega, by show ss + 6 + 0 ≤ 7166462; omega⟩)) (fun r3 hw3 => ?_)
  refine lv_iload hx hb d_L_law_210 (lv_at hl 0 rfl) ?_
  refine lv_icmp_eq (tgt := 217) hx hb d_L_law_212 (by decide) (fun _ => ?_) (fun cz => absurd (hw3.trans (hw2.2.trans hw1.2.symm)) cz)
  refine lv_goto (tgt := 789) hx hb d_L_law_217 (by decide) ?_
  exact hk u1 u2 _ _ ls ⟨n1, a1, b1, c1, hw1.1, hw2.1⟩ hP hD hS (lv_sub hl [1, 2, 3, 4, 5] rfl)
set_option maxHeartbeats 4000000 in
set_option maxRecDepth 100000 in
theorem q_cuts {p : Program} {l : Launch} {e : Env} {s : State} {m : MethodId} {below : List Frame} {meth : Method} {c : Code} {b L : Nat} {xs : Nat → Int32} (hst : l.stackTraces = false) (C0 : lw_At p s m meth c b L xs) {dC : Nat → ClassId} {dI : Nat → Nat → Nat} {h h' : Nat → Nat} {k k' : Nat → ClassId} (hF : lwF s) (hK : va_K (dC, dI) vwCl (YL k ++ YM k') s) {x4 : Int32} (hi : ∀ j : Int32, j = 1 ∨ j = 2 ∨ j = 3 ∨ j = 4 → vp_in (x4 + j) L) {cc ss : Nat} (hcc : cc + 1 ≤ 643214) (hss : ss + 6 ≤ 7166462) (hk : lwK p l e s m below meth c b dC dI h k h' k' x4 (cc + 1) (ss + 6)) {st : QS} {ms : MS} (hI : bInv st ms) {H : Heap} {locs : List Loc} (hP : va_P (dC, dI) vwCl (WL h k st ++ WM h' k' ms) H) (hD : va_D (fun q : Nat => s.heap.size ≤ q) (WL h k st ++ WM h' k' ms)) (hS : va_S (fun q : Nat => s.heap.size ≤ q) s.heap H locs) {ls : Array Slot} (hl : lv_has ls 8 [(0, .ref b), (1, .ref (h 0)), (2, .ref (h' 0)), (3, .ref (h 45)), (4, .int x4)]) : W p l e room_1 s m #[Value.ref b] below meth c H locs cc ss (lw_Z below #[Value.ref b] s) (F0 m 220 ls []) := by
  obtain ⟨hx, hb, hr, hml, hown0, hts0, hX, hbl, hlocks, -⟩ := C0
  have hown : s.vm.findClass RL = some m.cls := hown0
  have hts : ∀ w ∈ cw, w.before #[Value.ref b] s = true := fun w hw => hts0 w (cw_in hw)
  obtain ⟨hN, hXn, hT, hZ, hC1, hC2⟩ := hF
  have hA : ∀ q : Nat, s.heap.size ≤ q → (fun q : Nat => s.heap.size ≤ q) q := fun _ h => h
  have hbA : ¬ (fun q : Nat => s.heap.size ≤ q) b := Nat.not_le.mpr hbl
  obtain ⟨V, hwC, hwM⟩ := b_cuts hI 
  refine W.widen (k := cc + 1) (n := ss + 6) (by omega) (by omega) ?_
  refine lv_aload_n hx hb d_L_law_220 rfl (lv_at hl 1 rfl) ?_
  have hPc := va_P_r (a := [(h 45, .inl (k 45, 1, .inr (.inl (QS.o st))))]) (va_P_l hP)
  have hKc := hK.sub (tys' := YC k) [1, 2, 3, 4, 5, 6, 7, 8, 9, 10, 11, 12] rfl
  refine vp_callSi (va_Run.run (va_runV (As := []) (rest := []) ⟨hx, hb, hml, hown, hts⟩ (t_C_cuts l dC dI h k (QS.x st)  hwC) (cwV 0 hts (gV m_136 m_137 m_138 m_1 (cw_call m_139)) rfl rfl rfl (by decide +kernel) ⟨Nat.le_of_ble_eq_true rfl, Nat.le_of_ble_eq_true rfl⟩) ⟨pRo_bl, va_recv hKc hPc (ci := 1) (q0 := 0) rfl rfl, fun U hU hW => ⟨rfl, pRo_at hPc hKc hN hU hW⟩⟩ rfl rfl hl.1 rfl (lv_room (Nat.le_of_ble_eq_true rfl)) d_L_law_221 ⟨by show cc + 1 + 0 ≤ 643214; omega, by show ss + 6 + 0 ≤ 7166462; omega⟩)) (fun r1 hw1 => ?_)
  refine lv_aload_n hx hb d_L_law_224 rfl (lv_at hl 2 rfl) ?_
  have hPc := va_P_r hP
  have hKc := hK.sub (tys' := YM k') [13, 14, 15, 16, 17] rfl
  have hDc := va_D_r hD
  have hFc := va_freeA hDc hS hA
  refine va_calli (va_runV (As := []) (rest := [.int r1]) ⟨hx, hb, hml, hown, hts⟩ (t_M_cuts l dC dI h' k' _ ms  hwM) (cwV 0 hts (gV m_455 m_456 m_457 m_5 (cw_call m_458)) rfl rfl rfl (by decide +kernel) ⟨Nat.le_of_ble_eq_true rfl, Nat.le_of_ble_eq_true rfl⟩) ⟨pRw_bl, va_recv hKc hPc (ci := 2) (q0 := 0) rfl rfl, fun U hU hW => ⟨rfl, pRw_at hPc hKc hN hDc hU hW⟩⟩ rfl rfl hl.1 rfl (lv_room (Nat.le_of_ble_eq_true rfl)) d_L_law_225 ⟨by show cc + 1 + 0 ≤ 643214; omega, by show ss + 6 + 0 ≤ 7166462; omega⟩) hS (fun q _ h => hFc q h) hFc (fun r2 u2 t H2 locs ht hvm hw2 hB hz1 hk1 hS => ?_)
  obtain ⟨hP1, hD1⟩ := hB
  rw [ht] at hP1
  obtain ⟨hP, hD⟩ := va_swapT (pre := WL h k st) (wc := WM h' k' ms) (w1 := WM h' k' u2) hP hD hk1 hP1 rfl
  refine lv_icmp_eq (tgt := 789) hx hb d_L_law_228 (by decide) (fun _ => ?_) (fun cz => absurd (hw1.trans hw2.2.symm) cz)
  exact hk st u2 _ _ ls hw2.1 hP hD hS (lv_sub hl [0, 1, 2, 3, 4] rfl)
set_option maxHeartbeats 4000000 in
set_option maxRecDepth 100000 in
theorem q_cut {p : Program} {l : Launch} {e : Env} {s : State} {m : MethodId} {below : List Frame} {meth : Method} {c : Code} {b L : Nat} {xs : Nat → Int32} (hst : l.stackTraces = false) (C0 : lw_At p s m meth c b L xs) {dC : Nat → ClassId} {dI : Nat → Nat → Nat} {h h' : Nat → Nat} {k k' : Nat → ClassId} (hF : lwF s) (hK : va_K (dC, dI) vwCl (YL k ++ YM k') s) {x4 : Int32} (hi : ∀ j : Int32, j = 1 ∨ j = 2 ∨ j = 3 ∨ j = 4 → vp_in (x4 + j) L) {cc ss : Nat} (hcc : cc + 1 ≤ 643214) (hss : ss + 6 ≤ 7166462) (hk : lwK p l e s m below meth c b dC dI h k h' k' x4 (cc + 1) (ss + 6)) {st : QS} {ms : MS} (hI : bInv st ms) {H : Heap} {locs : List Loc} (hP : va_P (dC, dI) vwCl (WL h k st ++ WM h' k' ms) H) (hD : va_D (fun q : Nat => s.heap.size ≤ q) (WL h k st ++ WM h' k' ms)) (hS : va_S (fun q : Nat => s.heap.size ≤ q) s.heap H locs) {ls : Array Slot} (hl : lv_has ls 8 [(0, .ref b), (1, .ref (h 0)), (2, .ref (h' 0)), (3, .ref (h 45)), (4, .int x4)]) : W p l e room_1 s m #[Value.ref b] below meth c H locs cc ss (lw_Z below #[Value.ref b] s) (F0 m 233 ls []) := by
  obtain ⟨hx, hb, hr, hml, hown0, hts0, hX, hbl, hlocks, -⟩ := C0
  have hown : s.vm.findClass RL = some m.cls := hown0
  have hts : ∀ w ∈ cw, w.before #[Value.ref b] s = true := fun w hw => hts0 w (cw_in hw)
  obtain ⟨hN, hXn, hT, hZ, hC1, hC2⟩ := hF
  have hA : ∀ q : Nat, s.heap.size ≤ q → (fun q : Nat => s.heap.size ≤ q) q := fun _ h => h
  have hbA : ¬ (fun q : Nat => s.heap.size ≤ q) b := Nat.not_le.mpr hbl
  have hi1 := hi 1 (by decide)
  have hi2 := hi 2 (by decide)
  obtain ⟨cd, V, n1, a1, b1, c1, hwL, hwM⟩ := b_cut hI (xs (x4 + 1).toNatClampNeg) (xs (x4 + 2).toNatClampNeg)
  refine lv_aload_n hx hb d_L_law_233 rfl (lv_at hl 1 rfl) ?_
  refine lv_aload_n hx hb d_L_law_234 rfl (lv_at hl 0 rfl) ?_
  refine lv_iload hx hb d_L_law_235 (lv_at hl 4 rfl) ?_
  refine lv_iconst (v := 1) hx hb d_L_law_237 (by decide) ?_
  refine lv_iadd hx hb d_L_law_238 ?_
  refine va_sld hx hb hX hbl hbA hS hi1 d_L_law_239 ?_
  refine lv_aload_n hx hb d_L_law_240 rfl (lv_at hl 0 rfl) ?_
  refine lv_iload hx hb d_L_law_241 (lv_at hl 4 rfl) ?_
  refine lv_iconst (v := 2) hx hb d_L_law_243 (by decide) ?_
  refine lv_iadd hx hb d_L_law_244 ?_
  refine va_sld hx hb hX hbl hbA hS hi2 d_L_law_245 ?_
  refine lv_aload_n hx hb d_L_law_246 rfl (lv_at hl 3 rfl) ?_
  have hPc := va_P_l hP
  have hDc := va_D_l hD
  have hKc := hK.sub (tys' := YL k) [0, 1, 2, 3, 4, 5, 6, 7, 8, 9, 10, 11, 12] rfl
  have hFc := va_freeA hDc hS hA
  refine va_calli (vx_runSW (As := [.ref (h 0), .int (xs (x4 + 1).toNatClampNeg), .int (xs (x4 + 2).toNatClampNeg), .ref (h 45)]) (rest := []) ⟨hx, hb, hml, hown, hts⟩ (t_L_cut l hst dC dI h k _ st (xs (x4 + 1).toNatClampNeg) (xs (x4 + 2).toNatClampNeg) hwL) (vx_cwSW 4 hts (gS m_295 m_296 m_0 (cw_call m_297)) rfl rfl rfl (by decide +kernel) ⟨Nat.le_of_ble_eq_true rfl, Nat.le_of_ble_eq_true rfl⟩) ⟨pRl_bl, fun U hU hW => ⟨rfl, pRx_at hPc hKc hN hDc hXn hT hZ hS hFc hU hW, va_Nc.moved hW.alike hC1, va_Nc.moved hW.alike hC2⟩⟩ rfl rfl hl.1 rfl (lv_room (Nat.le_of_ble_eq_true rfl)) d_L_law_247 ⟨by show cc + 1 ≤ 643214; omega, by show ss + 6 ≤ 7166462; omega⟩) hS (fun q _ h => hFc q h) hFc (fun r1 u1 t H1 locs ht hvm hw1 hB hz1 hk1 hS => ?_)
  obtain ⟨hP1, hD1⟩ := hB
  rw [ht] at hP1
  obtain ⟨hP, hD⟩ := va_swap (pre := []) (wc := WL h k st) (w1 := WL h k u1) (post := WM h' k' ms) hP hD hk1 hP1 rfl
  have hP : va_P (dC, dI) vwCl (WL h k u1 ++ WM h' k' ms) H1 := hP
  have hD : va_D (fun q : Nat => s.heap.size ≤ q) (WL h k u1 ++ WM h' k' ms) := hD
  refine lv_istore (lv' := [(5, .int r1), (0, .ref b), (1, .ref (h 0)), (2, .ref (h' 0)), (3, .ref (h 45)), (4, .int x4)]) hx hb d_L_law_250 hl (by decide) rfl (fun ls hl => ?_)
  refine lv_aload_n hx hb d_L_law_252 rfl (lv_at hl 3 rfl) ?_
  refine lv_aload_n hx hb d_L_law_253 rfl (lv_at hl 1 rfl) ?_
  refine lv_iload hx hb d_L_law_254 (lv_at hl 5 rfl) ?_
  refine lv_iconst (v := 1) hx hb d_L_law_256 (by decide) ?_
  refine lv_iadd hx hb d_L_law_257 ?_
  refine va_sld hx hb hX hbl hbA hS hi1 d_L_law_258 ?_
  refine lv_aload_n hx hb d_L_law_259 rfl (lv_at hl 1 rfl) ?_
  refine lv_iload hx hb d_L_law_260 (lv_at hl 5 rfl) ?_
  refine lv_iconst (v := 2) hx hb d_L_law_262 (by decide) ?_
  refine lv_iadd hx hb d_L_law_263 ?_
  refine va_sld hx hb hX hbl hbA hS hi2 d_L_law_264 ?_
  have hPc := va_P_r hP
  have hKc := hK.sub (tys' := YM k') [13, 14, 15, 16, 17] rfl
  have hDc := va_D_r hD
  have hFc := va_freeA hDc hS hA
  refine va_calll (va_runV (As := [.int (xs (x4 + 1).toNatClampNeg), .int (xs (x4 + 2).toNatClampNeg)]) (rest := []) ⟨hx, hb, hml, hown, hts⟩ (t_M_cut l dC dI h' k' _ ms (xs (x4 + 1).toNatClampNeg) (xs (x4 + 2).toNatClampNeg) hwM) (cwV 2 hts (gV m_459 m_460 m_461 m_5 (cw_call m_462)) rfl rfl rfl (by decide +kernel) ⟨Nat.le_of_ble_eq_true rfl, Nat.le_of_ble_eq_true rfl⟩) ⟨pRw_bl, va_recv hKc hPc (ci := 2) (q0 := 0) rfl rfl, fun U hU hW => ⟨rfl, pRw_at hPc hKc hN hDc hU hW⟩⟩ rfl rfl hl.1 rfl (lv_room (Nat.le_of_ble_eq_true rfl)) d_L_law_265 ⟨by show cc + 1 + 0 ≤ 643214; omega, by show ss + 6 + 0 ≤ 7166462; omega⟩) hS (fun q _ h => hFc q h) hFc (fun r2 u2 t H2 locs ht hvm hw2 hB hz1 hk1 hS => ?_)
  obtain ⟨hP1, hD1⟩ := hB
  rw [ht] at hP1
  obtain ⟨hP, hD⟩ := va_swapT (pre := WL h k u1) (wc := WM h' k' ms) (w1 := WM h' k' u2) hP hD hk1 hP1 rfl
  refine lv_lstore (lv' := [(6, .long r2), (5, .int r1), (0, .ref b), (1, .ref (h 0)), (2, .ref (h' 0)), (3, .ref (h 45)), (4, .int x4)]) hx hb d_L_law_268 hl (by decide) rfl (fun ls hl => ?_)
  refine lv_aload_n hx hb d_L_law_270 rfl (lv_at hl 4 rfl) ?_
  have hPc := va_P_r hP
  have hKc := hK.sub (tys' := YM k') [13, 14, 15, 16, 17] rfl
  refine vp_callSi (va_Run.run (va_runV (As := []) (rest := []) ⟨hx, hb, hml, hown, hts⟩ (t_M_thrown l dC dI h' k' u2 (post := fun r => r = MS.code u2) rfl) (cwV 0 hts (gV m_422 m_423 m_424 m_5 (cw_call m_425)) rfl rfl rfl (by decide +kernel) ⟨Nat.le_of_ble_eq_true rfl, Nat.le_of_ble_eq_true rfl⟩) ⟨pRo_bl, va_recv hKc hPc (ci := 2) (q0 := 0) rfl rfl, fun U hU hW => ⟨rfl, pRo_at hPc hKc hN hU hW⟩⟩ rfl rfl hl.1 rfl (lv_room (Nat.le_of_ble_eq_true rfl)) d_L_law_271 ⟨by show cc + 1 + 0 ≤ 643214; omega, by show ss + 6 + 0 ≤ 7166462; omega⟩)) (fun r3 hw3 => ?_)
  refine lv_iload hx hb d_L_law_274 (lv_at hl 1 rfl) ?_
  refine lv_icmp_eq (tgt := 281) hx hb d_L_law_276 (by decide) (fun _ => ?_) (fun cz => absurd (hw3.trans (hw2.2.1.trans hw1.2.1.symm)) cz)
  refine lv_iload hx hb d_L_law_281 (lv_at hl 1 rfl) ?_
  refine lv_if_ne (tgt := 297) hx hb d_L_law_283 (by decide) (fun _ => ?_) (fun c5 => ?_)
  · skip
    refine lv_goto (tgt := 789) hx hb d_L_law_297 (by decide) ?_
    exact hk u1 u2 _ _ ls ⟨n1, a1, b1, c1, hw1.1, hw2.1⟩ hP hD hS (lv_sub hl [2, 3, 4, 5, 6] rfl)
  · have hz : cd = 0 := hw1.2.1.symm.trans c5
    refine lv_aload_n hx hb d_L_law_286 rfl (lv_at hl 5 rfl) ?_
    refine lv_iconst (v := 0) hx hb d_L_law_287 (by decide) ?_
    refine va_lald hx hb hK hP 0 0 rfl rfl (show vp_in (nI 0) 1 from vp_in_nI (by decide) (by decide)) d_L_law_288 ?_
    refine lv_lload hx hb d_L_law_289 (lv_at hl 0 rfl) ?_
    refine W.lcmp hx hb d_L_law_291 ?_
    refine lv_if_eq (tgt := 297) hx hb d_L_law_292 (by decide) (fun _ => ?_) (fun cz => absurd (lgc_eq.mpr ((hw1.2.2 hz).trans (hw2.2.2 hz).symm)) cz)
    refine lv_goto (tgt := 789) hx hb d_L_law_297 (by decide) ?_
    exact hk u1 u2 _ _ ls ⟨n1, a1, b1, c1, hw1.1, hw2.1⟩ hP hD hS (lv_sub hl [2, 3, 4, 5, 6] rfl)
set_option maxHeartbeats 4000000 in
set_option maxRecDepth 100000 in
theorem q_curves {p : Program} {l : Launch} {e : Env} {s : State} {m : MethodId} {below : List Frame} {meth : Method} {c : Code} {b L : Nat} {xs : Nat → Int32} (hst : l.stackTraces = false) (C0 : lw_At p s m meth c b L xs) {dC : Nat → ClassId} {dI : Nat → Nat → Nat} {h h' : Nat → Nat} {k k' : Nat → ClassId} (hF : lwF s) (hK : va_K (dC, dI) vwCl (YL k ++ YM k') s) {x4 : Int32} (hi : ∀ j : Int32, j = 1 ∨ j = 2 ∨ j = 3 ∨ j = 4 → vp_in (x4 + j) L) {cc ss : Nat} (hcc : cc + 1 ≤ 643214) (hss : ss + 6 ≤ 7166462) (hk : lwK p l e s m below meth c b dC dI h k h' k' x4 (cc + 1) (ss + 6)) {st : QS} {ms : MS} (hI : bInv st ms) {H : Heap} {locs : List Loc} (hP : va_P (dC, dI) vwCl (WL h k st ++ WM h' k' ms) H) (hD : va_D (fun q : Nat => s.heap.size ≤ q) (WL h k st ++ WM h' k' ms)) (hS : va_S (fun q : Nat => s.heap.size ≤ q) s.heap H locs) {ls : Array Slot} (hl : lv_has ls 8 [(0, .ref b), (1, .ref (h 0)), (2, .ref (h' 0)), (3, .ref (h 45)), (4, .int x4)]) : W p l e room_1 s m #[Value.ref b] below meth c H locs cc ss (lw_Z below #[Value.ref b] s) (F0 m 300 ls []) := by
  obtain ⟨hx, hb, hr, hml, hown0, hts0, hX, hbl, hlocks, -⟩ := C0
  have hown : s.vm.findClass RL = some m.cls := hown0
  have hts : ∀ w ∈ cw, w.before #[Value.ref b] s = true := fun w hw => hts0 w (cw_in hw)
  obtain ⟨hN, hXn, hT, hZ, hC1, hC2⟩ := hF
  have hA : ∀ q : Nat, s.heap.size ≤ q → (fun q : Nat => s.heap.size ≤ q) q := fun _ h => h
  have hbA : ¬ (fun q : Nat => s.heap.size ≤ q) b := Nat.not_le.mpr hbl
  have hi1 := hi 1 (by decide)
  obtain ⟨cd, V, n1, a1, b1, c1, hwL, hwM⟩ := b_curves hI (xs (x4 + 1).toNatClampNeg)
  refine lv_aload_n hx hb d_L_law_300 rfl (lv_at hl 1 rfl) ?_
  refine lv_aload_n hx hb d_L_law_301 rfl (lv_at hl 0 rfl) ?_
  refine lv_iload hx hb d_L_law_302 (lv_at hl 4 rfl) ?_
  refine lv_iconst (v := 1) hx hb d_L_law_304 (by decide) ?_
  refine lv_iadd hx hb d_L_law_305 ?_
  refine va_sld hx hb hX hbl hbA hS hi1 d_L_law_306 ?_
  refine lv_aload_n hx hb d_L_law_307 rfl (lv_at hl 3 rfl) ?_
  have hPc := va_P_l hP
  have hDc := va_D_l hD
  have hKc := hK.sub (tys' := YL k) [0, 1, 2, 3, 4, 5, 6, 7, 8, 9, 10, 11, 12] rfl
  have hFc := va_freeA hDc hS hA
  refine va_calli (vx_runSW (As := [.ref (h 0), .int (xs (x4 + 1).toNatClampNeg), .ref (h 45)]) (rest := []) ⟨hx, hb, hml, hown, hts⟩ (t_L_curves l hst dC dI h k _ st (xs (x4 + 1).toNatClampNeg) hwL) (vx_cwSW 3 hts (gS m_307 m_308 m_0 (cw_call m_309)) rfl rfl rfl (by decide +kernel) ⟨Nat.le_of_ble_eq_true rfl, Nat.le_of_ble_eq_true rfl⟩) ⟨pRl_bl, fun U hU hW => ⟨rfl, pRx_at hPc hKc hN hDc hXn hT hZ hS hFc hU hW, va_Nc.moved hW.alike hC1, va_Nc.moved hW.alike hC2⟩⟩ rfl rfl hl.1 rfl (lv_room (Nat.le_of_ble_eq_true rfl)) d_L_law_308 ⟨by show cc + 1 ≤ 643214; omega, by show ss + 6 ≤ 7166462; omega⟩) hS (fun q _ h => hFc q h) hFc (fun r1 u1 t H1 locs ht hvm hw1 hB hz1 hk1 hS => ?_)
  obtain ⟨hP1, hD1⟩ := hB
  rw [ht] at hP1
  obtain ⟨hP, hD⟩ := va_swap (pre := []) (wc := WL h k st) (w1 := WL h k u1) (post := WM h' k' ms) hP hD hk1 hP1 rfl
  have hP : va_P (dC, dI) vwCl (WL h k u1 ++ WM h' k' ms) H1 := hP
  have hD : va_D (fun q : Nat => s.heap.size ≤ q) (WL h k u1 ++ WM h' k' ms) := hD
  refine lv_istore (lv' := [(5, .int r1), (0, .ref b), (1, .ref (h 0)), (2, .ref (h' 0)), (3, .ref (h 45)), (4, .int x4)]) hx hb d_L_law_311 hl (by decide) rfl (fun ls hl => ?_)
  refine lv_aload_n hx hb d_L_law_313 rfl (lv_at hl 3 rfl) ?_
  refine lv_aload_n hx hb d_L_law_314 rfl (lv_at hl 1 rfl) ?_
  refine lv_iload hx hb d_L_law_315 (lv_at hl 5 rfl) ?_
  refine lv_iconst (v := 1) hx hb d_L_law_317 (by decide) ?_
  refine lv_iadd hx hb d_L_law_318 ?_
  refine va_sld hx hb hX hbl hbA hS hi1 d_L_law_319 ?_
  have hPc := va_P_r hP
  have hKc := hK.sub (tys' := YM k') [13, 14, 15, 16, 17] rfl
  have hDc := va_D_r hD
  have hFc := va_freeA hDc hS hA
  refine va_calli (va_runV (As := [.int (xs (x4 + 1).toNatClampNeg)]) (rest := []) ⟨hx, hb, hml, hown, hts⟩ (t_M_curves l dC dI h' k' _ ms (xs (x4 + 1).toNatClampNeg) hwM) (cwV 1 hts (gV m_463 m_464 m_465 m_5 (cw_call m_466)) rfl rfl rfl (by decide +kernel) ⟨Nat.le_of_ble_eq_true rfl, Nat.le_of_ble_eq_true rfl⟩) ⟨pRw_bl, va_recv hKc hPc (ci := 2) (q0 := 0) rfl rfl, fun U hU hW => ⟨rfl, pRw_at hPc hKc hN hDc hU hW⟩⟩ rfl rfl hl.1 rfl (lv_room (Nat.le_of_ble_eq_true rfl)) d_L_law_320 ⟨by show cc + 1 + 0 ≤ 643214; omega, by show ss + 6 + 0 ≤ 7166462; omega⟩) hS (fun q _ h => hFc q h) hFc (fun r2 u2 t H2 locs ht hvm hw2 hB hz1 hk1 hS => ?_)
  obtain ⟨hP1, hD1⟩ := hB
  rw [ht] at hP1
  obtain ⟨hP, hD⟩ := va_swapT (pre := WL h k u1) (wc := WM h' k' ms) (w1 := WM h' k' u2) hP hD hk1 hP1 rfl
  refine lv_istore (lv' := [(6, .int r2), (5, .int r1), (0, .ref b), (1, .ref (h 0)), (2, .ref (h' 0)), (3, .ref (h 45)), (4, .int x4)]) hx hb d_L_law_323 hl (by decide) rfl (fun ls hl => ?_)
  refine lv_aload_n hx hb d_L_law_325 rfl (lv_at hl 4 rfl) ?_
  have hPc := va_P_r hP
  have hKc := hK.sub (tys' := YM k') [13, 14, 15, 16, 17] rfl
  refine vp_callSi (va_Run.run (va_runV (As := []) (rest := []) ⟨hx, hb, hml, hown, hts⟩ (t_M_thrown l dC dI h' k' u2 (post := fun r => r = MS.code u2) rfl) (cwV 0 hts (gV m_422 m_423 m_424 m_5 (cw_call m_425)) rfl rfl rfl (by decide +kernel) ⟨Nat.le_of_ble_eq_true rfl, Nat.le_of_ble_eq_true rfl⟩) ⟨pRo_bl, va_recv hKc hPc (ci := 2) (q0 := 0) rfl rfl, fun U hU hW => ⟨rfl, pRo_at hPc hKc hN hU hW⟩⟩ rfl rfl hl.1 rfl (lv_room (Nat.le_of_ble_eq_true rfl)) d_L_law_326 ⟨by show cc + 1 + 0 ≤ 643214; omega, by show ss + 6 + 0 ≤ 7166462; omega⟩)) (fun r3 hw3 => ?_)
  refine lv_iload hx hb d_L_law_329 (lv_at hl 1 rfl) ?_
  refine lv_icmp_eq (tgt := 336) hx hb d_L_law_331 (by decide) (fun _ => ?_) (fun cz => absurd (hw3.trans (hw2.2.1.trans hw1.2.1.symm)) cz)
  refine lv_iload hx hb d_L_law_336 (lv_at hl 1 rfl) ?_
  refine lv_if_ne (tgt := 353) hx hb d_L_law_338 (by decide) (fun _ => ?_) (fun c5 => ?_)
  · skip
    refine lv_goto (tgt := 789) hx hb d_L_law_353 (by decide) ?_
    exact hk u1 u2 _ _ ls ⟨n1, a1, b1, c1, hw1.1, hw2.1⟩ hP hD hS (lv_sub hl [2, 3, 4, 5, 6] rfl)
  · have hz : cd = 0 := hw1.2.1.symm.trans c5
    refine lv_aload_n hx hb d_L_law_341 rfl (lv_at hl 5 rfl) ?_
    refine lv_iconst (v := 0) hx hb d_L_law_342 (by decide) ?_
    refine va_lald hx hb hK hP 0 0 rfl rfl (show vp_in (nI 0) 1 from vp_in_nI (by decide) (by decide)) d_L_law_343 ?_
    refine lv_iload hx hb d_L_law_344 (lv_at hl 0 rfl) ?_
    refine lv_i2l (v := r2.toInt64) hx hb d_L_law_346 rfl ?_
    refine W.lcmp hx hb d_L_law_347 ?_
    refine lv_if_eq (tgt := 353) hx hb d_L_law_348 (by decide) (fun _ => ?_) (fun cz => absurd (lgc_eq.mpr ((hw1.2.2 hz).trans (by rw [hw2.2.2 hz]))) cz)
    refine lv_goto (tgt := 789) hx hb d_L_law_353 (by decide) ?_
    exact hk u1 u2 _ _ ls ⟨n1, a1, b1, c1, hw1.1, hw2.1⟩ hP hD hS (lv_sub hl [2, 3, 4, 5, 6] rfl)
set_option maxHeartbeats 4000000 in
set_option maxRecDepth 100000 in
theorem q_total {p : Program} {l : Launch} {e : Env} {s : State} {m : MethodId} {below : List Frame} {meth : Method} {c : Code} {b L : Nat} {xs : Nat → Int32} (hst : l.stackTraces = false) (C0 : lw_At p s m meth c b L xs) {dC : Nat → ClassId} {dI : Nat → Nat → Nat} {h h' : Nat → Nat} {k k' : Nat → ClassId} (hF : lwF s) (hK : va_K (dC, dI) vwCl (YL k ++ YM k') s) {x4 : Int32} (hi : ∀ j : Int32, j = 1 ∨ j = 2 ∨ j = 3 ∨ j = 4 → vp_in (x4 + j) L) {cc ss : Nat} (hcc : cc + 1 ≤ 643214) (hss : ss + 6 ≤ 7166462) (hk : lwK p l e s m below meth c b dC dI h k h' k' x4 (cc + 1) (ss + 6)) {st : QS} {ms : MS} (hI : bInv st ms) {H : Heap} {locs : List Loc} (hP : va_P (dC, dI) vwCl (WL h k st ++ WM h' k' ms) H) (hD : va_D (fun q : Nat => s.heap.size ≤ q) (WL h k st ++ WM h' k' ms)) (hS : va_S (fun q : Nat => s.heap.size ≤ q) s.heap H locs) {ls : Array Slot} (hl : lv_has ls 8 [(0, .ref b), (1, .ref (h 0)), (2, .ref (h' 0)), (3, .ref (h 45)), (4, .int x4)]) : W p l e room_1 s m #[Value.ref b] below meth c H locs cc ss (lw_Z below #[Value.ref b] s) (F0 m 356 ls []) := by
  obtain ⟨hx, hb, hr, hml, hown0, hts0, hX, hbl, hlocks, -⟩ := C0
  have hown : s.vm.findClass RL = some m.cls := hown0
  have hts : ∀ w ∈ cw, w.before #[Value.ref b] s = true := fun w hw => hts0 w (cw_in hw)
  obtain ⟨hN, hXn, hT, hZ, hC1, hC2⟩ := hF
  have hA : ∀ q : Nat, s.heap.size ≤ q → (fun q : Nat => s.heap.size ≤ q) q := fun _ h => h
  have hbA : ¬ (fun q : Nat => s.heap.size ≤ q) b := Nat.not_le.mpr hbl
  obtain ⟨V, hwC, hwM⟩ := b_total hI 
  refine W.widen (k := cc + 1) (n := ss + 6) (by omega) (by omega) ?_
  refine lv_aload_n hx hb d_L_law_356 rfl (lv_at hl 1 rfl) ?_
  have hPc := va_P_r (a := [(h 45, .inl (k 45, 1, .inr (.inl (QS.o st))))]) (va_P_l hP)
  have hKc := hK.sub (tys' := YC k) [1, 2, 3, 4, 5, 6, 7, 8, 9, 10, 11, 12] rfl
  refine vp_callSi (va_Run.run (va_runV (As := []) (rest := []) ⟨hx, hb, hml, hown, hts⟩ (t_C_total l dC dI h k (QS.x st)  hwC) (cwV 0 hts (gV m_140 m_141 m_142 m_1 (cw_call m_143)) rfl rfl rfl (by decide +kernel) ⟨Nat.le_of_ble_eq_true rfl, Nat.le_of_ble_eq_true rfl⟩) ⟨pRo_bl, va_recv hKc hPc (ci := 1) (q0 := 0) rfl rfl, fun U hU hW => ⟨rfl, pRo_at hPc hKc hN hU hW⟩⟩ rfl rfl hl.1 rfl (lv_room (Nat.le_of_ble_eq_true rfl)) d_L_law_357 ⟨by show cc + 1 + 0 ≤ 643214; omega, by show ss + 6 + 0 ≤ 7166462; omega⟩)) (fun r1 hw1 => ?_)
  refine lv_aload_n hx hb d_L_law_360 rfl (lv_at hl 2 rfl) ?_
  have hPc := va_P_r hP
  have hKc := hK.sub (tys' := YM k') [13, 14, 15, 16, 17] rfl
  have hDc := va_D_r hD
  have hFc := va_freeA hDc hS hA
  refine va_calli (va_runV (As := []) (rest := [.int r1]) ⟨hx, hb, hml, hown, hts⟩ (t_M_total l dC dI h' k' _ ms  hwM) (cwV 0 hts (gV m_488 m_489 m_490 m_5 (cw_call m_491)) rfl rfl rfl (by decide +kernel) ⟨Nat.le_of_ble_eq_true rfl, Nat.le_of_ble_eq_true rfl⟩) ⟨pRw_bl, va_recv hKc hPc (ci := 2) (q0 := 0) rfl rfl, fun U hU hW => ⟨rfl, pRw_at hPc hKc hN hDc hU hW⟩⟩ rfl rfl hl.1 rfl (lv_room (Nat.le_of_ble_eq_true rfl)) d_L_law_361 ⟨by show cc + 1 + 0 ≤ 643214; omega, by show ss + 6 + 0 ≤ 7166462; omega⟩) hS (fun q _ h => hFc q h) hFc (fun r2 u2 t H2 locs ht hvm hw2 hB hz1 hk1 hS => ?_)
  obtain ⟨hP1, hD1⟩ := hB
  rw [ht] at hP1
  obtain ⟨hP, hD⟩ := va_swapT (pre := WL h k st) (wc := WM h' k' ms) (w1 := WM h' k' u2) hP hD hk1 hP1 rfl
  refine lv_icmp_eq (tgt := 789) hx hb d_L_law_364 (by decide) (fun _ => ?_) (fun cz => absurd (hw1.trans hw2.2.symm) cz)
  exact hk st u2 _ _ ls hw2.1 hP hD hS (lv_sub hl [0, 1, 2, 3, 4] rfl)
set_option maxHeartbeats 4000000 in
set_option maxRecDepth 100000 in
theorem q_cell {p : Program} {l : Launch} {e : Env} {s : State} {m : MethodId} {below : List Frame} {meth : Method} {c : Code} {b L : Nat} {xs : Nat → Int32} (hst : l.stackTraces = false) (C0 : lw_At p s m meth c b L xs) {dC : Nat → ClassId} {dI : Nat → Nat → Nat} {h h' : Nat → Nat} {k k' : Nat → ClassId} (hF : lwF s) (hK : va_K (dC, dI) vwCl (YL k ++ YM k') s) {x4 : Int32} (hi : ∀ j : Int32, j = 1 ∨ j = 2 ∨ j = 3 ∨ j = 4 → vp_in (x4 + j) L) {cc ss : Nat} (hcc : cc + 1 ≤ 643214) (hss : ss + 6 ≤ 7166462) (hk : lwK p l e s m below meth c b dC dI h k h' k' x4 (cc + 1) (ss + 6)) {st : QS} {ms : MS} (hI : bInv st ms) {H : Heap} {locs : List Loc} (hP : va_P (dC, dI) vwCl (WL h k st ++ WM h' k' ms) H) (hD : va_D (fun q : Nat => s.heap.size ≤ q) (WL h k st ++ WM h' k' ms)) (hS : va_S (fun q : Nat => s.heap.size ≤ q) s.heap H locs) {ls : Array Slot} (hl : lv_has ls 8 [(0, .ref b), (1, .ref (h 0)), (2, .ref (h' 0)), (3, .ref (h 45)), (4, .int x4)]) : W p l e room_1 s m #[Value.ref b] below meth c H locs cc ss (lw_Z below #[Value.ref b] s) (F0 m 369 ls []) := by
  obtain ⟨hx, hb, hr, hml, hown0, hts0, hX, hbl, hlocks, -⟩ := C0
  have hown : s.vm.findClass RL = some m.cls := hown0
  have hts : ∀ w ∈ cw, w.before #[Value.ref b] s = true := fun w hw => hts0 w (cw_in hw)
  obtain ⟨hN, hXn, hT, hZ, hC1, hC2⟩ := hF
  have hA : ∀ q : Nat, s.heap.size ≤ q → (fun q : Nat => s.heap.size ≤ q) q := fun _ h => h
  have hbA : ¬ (fun q : Nat => s.heap.size ≤ q) b := Nat.not_le.mpr hbl
  have hi1 := hi 1 (by decide)
  have hi2 := hi 2 (by decide)
  obtain ⟨cd, V, n1, a1, b1, c1, hwL, hwM⟩ := b_cell hI (xs (x4 + 1).toNatClampNeg) (xs (x4 + 2).toNatClampNeg)
  refine lv_aload_n hx hb d_L_law_369 rfl (lv_at hl 1 rfl) ?_
  refine lv_aload_n hx hb d_L_law_370 rfl (lv_at hl 0 rfl) ?_
  refine lv_iload hx hb d_L_law_371 (lv_at hl 4 rfl) ?_
  refine lv_iconst (v := 1) hx hb d_L_law_373 (by decide) ?_
  refine lv_iadd hx hb d_L_law_374 ?_
  refine va_sld hx hb hX hbl hbA hS hi1 d_L_law_375 ?_
  refine lv_aload_n hx hb d_L_law_376 rfl (lv_at hl 0 rfl) ?_
  refine lv_iload hx hb d_L_law_377 (lv_at hl 4 rfl) ?_
  refine lv_iconst (v := 2) hx hb d_L_law_379 (by decide) ?_
  refine lv_iadd hx hb d_L_law_380 ?_
  refine va_sld hx hb hX hbl hbA hS hi2 d_L_law_381 ?_
  refine lv_aload_n hx hb d_L_law_382 rfl (lv_at hl 3 rfl) ?_
  have hPc := va_P_l hP
  have hDc := va_D_l hD
  have hKc := hK.sub (tys' := YL k) [0, 1, 2, 3, 4, 5, 6, 7, 8, 9, 10, 11, 12] rfl
  have hFc := va_freeA hDc hS hA
  refine va_calli (vx_runSW (As := [.ref (h 0), .int (xs (x4 + 1).toNatClampNeg), .int (xs (x4 + 2).toNatClampNeg), .ref (h 45)]) (rest := []) ⟨hx, hb, hml, hown, hts⟩ (t_L_cell l hst dC dI h k _ st (xs (x4 + 1).toNatClampNeg) (xs (x4 + 2).toNatClampNeg) hwL) (vx_cwSW 4 hts (gS m_315 m_316 m_0 (cw_call m_317)) rfl rfl rfl (by decide +kernel) ⟨Nat.le_of_ble_eq_true rfl, Nat.le_of_ble_eq_true rfl⟩) ⟨pRl_bl, fun U hU hW => ⟨rfl, pRx_at hPc hKc hN hDc hXn hT hZ hS hFc hU hW, va_Nc.moved hW.alike hC1, va_Nc.moved hW.alike hC2⟩⟩ rfl rfl hl.1 rfl (lv_room (Nat.le_of_ble_eq_true rfl)) d_L_law_383 ⟨by show cc + 1 ≤ 643214; omega, by show ss + 6 ≤ 7166462; omega⟩) hS (fun q _ h => hFc q h) hFc (fun r1 u1 t H1 locs ht hvm hw1 hB hz1 hk1 hS => ?_)
  obtain ⟨hP1, hD1⟩ := hB
  rw [ht] at hP1
  obtain ⟨hP, hD⟩ := va_swap (pre := []) (wc := WL h k st) (w1 := WL h k u1) (post := WM h' k' ms) hP hD hk1 hP1 rfl
  have hP : va_P (dC, dI) vwCl (WL h k u1 ++ WM h' k' ms) H1 := hP
  have hD : va_D (fun q : Nat => s.heap.size ≤ q) (WL h k u1 ++ WM h' k' ms) := hD
  refine lv_istore (lv' := [(5, .int r1), (0, .ref b), (1, .ref (h 0)), (2, .ref (h' 0)), (3, .ref (h 45)), (4, .int x4)]) hx hb d_L_law_386 hl (by decide) rfl (fun ls hl => ?_)
  refine lv_aload_n hx hb d_L_law_388 rfl (lv_at hl 3 rfl) ?_
  refine lv_aload_n hx hb d_L_law_389 rfl (lv_at hl 1 rfl) ?_
  refine lv_iload hx hb d_L_law_390 (lv_at hl 5 rfl) ?_
  refine lv_iconst (v := 1) hx hb d_L_law_392 (by decide) ?_
  refine lv_iadd hx hb d_L_law_393 ?_
  refine va_sld hx hb hX hbl hbA hS hi1 d_L_law_394 ?_
  refine lv_aload_n hx hb d_L_law_395 rfl (lv_at hl 1 rfl) ?_
  refine lv_iload hx hb d_L_law_396 (lv_at hl 5 rfl) ?_
  refine lv_iconst (v := 2) hx hb d_L_law_398 (by decide) ?_
  refine lv_iadd hx hb d_L_law_399 ?_
  refine va_sld hx hb hX hbl hbA hS hi2 d_L_law_400 ?_
  have hPc := va_P_r hP
  have hKc := hK.sub (tys' := YM k') [13, 14, 15, 16, 17] rfl
  have hDc := va_D_r hD
  have hFc := va_freeA hDc hS hA
  refine va_calli (va_runV (As := [.int (xs (x4 + 1).toNatClampNeg), .int (xs (x4 + 2).toNatClampNeg)]) (rest := []) ⟨hx, hb, hml, hown, hts⟩ (t_M_cell l dC dI h' k' _ ms (xs (x4 + 1).toNatClampNeg) (xs (x4 + 2).toNatClampNeg) hwM) (cwV 2 hts (gV m_492 m_493 m_494 m_5 (cw_call m_495)) rfl rfl rfl (by decide +kernel) ⟨Nat.le_of_ble_eq_true rfl, Nat.le_of_ble_eq_true rfl⟩) ⟨pRw_bl, va_recv hKc hPc (ci := 2) (q0 := 0) rfl rfl, fun U hU hW => ⟨rfl, pRw_at hPc hKc hN hDc hU hW⟩⟩ rfl rfl hl.1 rfl (lv_room (Nat.le_of_ble_eq_true rfl)) d_L_law_401 ⟨by show cc + 1 + 0 ≤ 643214; omega, by show ss + 6 + 0 ≤ 7166462; omega⟩) hS (fun q _ h => hFc q h) hFc (fun r2 u2 t H2 locs ht hvm hw2 hB hz1 hk1 hS => ?_)
  obtain ⟨hP1, hD1⟩ := hB
  rw [ht] at hP1
  obtain ⟨hP, hD⟩ := va_swapT (pre := WL h k u1) (wc := WM h' k' ms) (w1 := WM h' k' u2) hP hD hk1 hP1 rfl
  refine lv_istore (lv' := [(6, .int r2), (5, .int r1), (0, .ref b), (1, .ref (h 0)), (2, .ref (h' 0)), (3, .ref (h 45)), (4, .int x4)]) hx hb d_L_law_404 hl (by decide) rfl (fun ls hl => ?_)
  refine lv_aload_n hx hb d_L_law_406 rfl (lv_at hl 4 rfl) ?_
  have hPc := va_P_r hP
  have hKc := hK.sub (tys' := YM k') [13, 14, 15, 16, 17] rfl
  refine vp_callSi (va_Run.run (va_runV (As := []) (rest := []) ⟨hx, hb, hml, hown, hts⟩ (t_M_thrown l dC dI h' k' u2 (post := fun r => r = MS.code u2) rfl) (cwV 0 hts (gV m_422 m_423 m_424 m_5 (cw_call m_425)) rfl rfl rfl (by decide +kernel) ⟨Nat.le_of_ble_eq_true rfl, Nat.le_of_ble_eq_true rfl⟩) ⟨pRo_bl, va_recv hKc hPc (ci := 2) (q0 := 0) rfl rfl, fun U hU hW => ⟨rfl, pRo_at hPc hKc hN hU hW⟩⟩ rfl rfl hl.1 rfl (lv_room (Nat.le_of_ble_eq_true rfl)) d_L_law_407 ⟨by show cc + 1 + 0 ≤ 643214; omega, by show ss + 6 + 0 ≤ 7166462; omega⟩)) (fun r3 hw3 => ?_)
  refine lv_iload hx hb d_L_law_410 (lv_at hl 1 rfl) ?_
  refine lv_icmp_eq (tgt := 417) hx hb d_L_law_412 (by decide) (fun _ => ?_) (fun cz => absurd (hw3.trans (hw2.2.1.trans hw1.2.1.symm)) cz)
  refine lv_iload hx hb d_L_law_417 (lv_at hl 1 rfl) ?_
  refine lv_if_ne (tgt := 434) hx hb d_L_law_419 (by decide) (fun _ => ?_) (fun c5 => ?_)
  · skip
    refine lv_goto (tgt := 789) hx hb d_L_law_434 (by decide) ?_
    exact hk u1 u2 _ _ ls ⟨n1, a1, b1, c1, hw1.1, hw2.1⟩ hP hD hS (lv_sub hl [2, 3, 4, 5, 6] rfl)
  · have hz : cd = 0 := hw1.2.1.symm.trans c5
    refine lv_aload_n hx hb d_L_law_422 rfl (lv_at hl 5 rfl) ?_
    refine lv_iconst (v := 0) hx hb d_L_law_423 (by decide) ?_
    refine va_lald hx hb hK hP 0 0 rfl rfl (show vp_in (nI 0) 1 from vp_in_nI (by decide) (by decide)) d_L_law_424 ?_
    refine lv_iload hx hb d_L_law_425 (lv_at hl 0 rfl) ?_
    refine lv_i2l (v := r2.toInt64) hx hb d_L_law_427 rfl ?_
    refine W.lcmp hx hb d_L_law_428 ?_
    refine lv_if_eq (tgt := 434) hx hb d_L_law_429 (by decide) (fun _ => ?_) (fun cz => absurd (lgc_eq.mpr ((hw1.2.2 hz).trans (by rw [hw2.2.2 hz]))) cz)
    refine lv_goto (tgt := 789) hx hb d_L_law_434 (by decide) ?_
    exact hk u1 u2 _ _ ls ⟨n1, a1, b1, c1, hw1.1, hw2.1⟩ hP hD hS (lv_sub hl [2, 3, 4, 5, 6] rfl)
set_option maxHeartbeats 4000000 in
set_option maxRecDepth 100000 in
theorem q_sample {p : Program} {l : Launch} {e : Env} {s : State} {m : MethodId} {below : List Frame} {meth : Method} {c : Code} {b L : Nat} {xs : Nat → Int32} (hst : l.stackTraces = false) (C0 : lw_At p s m meth c b L xs) {dC : Nat → ClassId} {dI : Nat → Nat → Nat} {h h' : Nat → Nat} {k k' : Nat → ClassId} (hF : lwF s) (hK : va_K (dC, dI) vwCl (YL k ++ YM k') s) {x4 : Int32} (hi : ∀ j : Int32, j = 1 ∨ j = 2 ∨ j = 3 ∨ j = 4 → vp_in (x4 + j) L) {cc ss : Nat} (hcc : cc + 1 ≤ 643214) (hss : ss + 6 ≤ 7166462) (hk : lwK p l e s m below meth c b dC dI h k h' k' x4 (cc + 1) (ss + 6)) {st : QS} {ms : MS} (hI : bInv st ms) {H : Heap} {locs : List Loc} (hP : va_P (dC, dI) vwCl (WL h k st ++ WM h' k' ms) H) (hD : va_D (fun q : Nat => s.heap.size ≤ q) (WL h k st ++ WM h' k' ms)) (hS : va_S (fun q : Nat => s.heap.size ≤ q) s.heap H locs) {ls : Array Slot} (hl : lv_has ls 8 [(0, .ref b), (1, .ref (h 0)), (2, .ref (h' 0)), (3, .ref (h 45)), (4, .int x4)]) : W p l e room_1 s m #[Value.ref b] below meth c H locs cc ss (lw_Z below #[Value.ref b] s) (F0 m 437 ls []) := by
  obtain ⟨hx, hb, hr, hml, hown0, hts0, hX, hbl, hlocks, -⟩ := C0
  have hown : s.vm.findClass RL = some m.cls := hown0
  have hts : ∀ w ∈ cw, w.before #[Value.ref b] s = true := fun w hw => hts0 w (cw_in hw)
  obtain ⟨hN, hXn, hT, hZ, hC1, hC2⟩ := hF
  have hA : ∀ q : Nat, s.heap.size ≤ q → (fun q : Nat => s.heap.size ≤ q) q := fun _ h => h
  have hbA : ¬ (fun q : Nat => s.heap.size ≤ q) b := Nat.not_le.mpr hbl
  have hi1 := hi 1 (by decide)
  have hi2 := hi 2 (by decide)
  have hi3 := hi 3 (by decide)
  obtain ⟨cd, V, n1, a1, b1, c1, hwL, hwM⟩ := b_sample hI (xs (x4 + 1).toNatClampNeg) (xs (x4 + 2).toNatClampNeg) (xs (x4 + 3).toNatClampNeg)
  refine lv_aload_n hx hb d_L_law_437 rfl (lv_at hl 1 rfl) ?_
  refine lv_aload_n hx hb d_L_law_438 rfl (lv_at hl 0 rfl) ?_
  refine lv_iload hx hb d_L_law_439 (lv_at hl 4 rfl) ?_
  refine lv_iconst (v := 1) hx hb d_L_law_441 (by decide) ?_
  refine lv_iadd hx hb d_L_law_442 ?_
  refine va_sld hx hb hX hbl hbA hS hi1 d_L_law_443 ?_
  refine lv_aload_n hx hb d_L_law_444 rfl (lv_at hl 0 rfl) ?_
  refine lv_iload hx hb d_L_law_445 (lv_at hl 4 rfl) ?_
  refine lv_iconst (v := 2) hx hb d_L_law_447 (by decide) ?_
  refine lv_iadd hx hb d_L_law_448 ?_
  refine va_sld hx hb hX hbl hbA hS hi2 d_L_law_449 ?_
  refine lv_aload_n hx hb d_L_law_450 rfl (lv_at hl 0 rfl) ?_
  refine lv_iload hx hb d_L_law_451 (lv_at hl 4 rfl) ?_
  refine lv_iconst (v := 3) hx hb d_L_law_453 (by decide) ?_
  refine lv_iadd hx hb d_L_law_454 ?_
  refine va_sld hx hb hX hbl hbA hS hi3 d_L_law_455 ?_
  refine lv_aload_n hx hb d_L_law_456 rfl (lv_at hl 3 rfl) ?_
  have hPc := va_P_l hP
  have hDc := va_D_l hD
  have hKc := hK.sub (tys' := YL k) [0, 1, 2, 3, 4, 5, 6, 7, 8, 9, 10, 11, 12] rfl
  have hFc := va_freeA hDc hS hA
  refine va_calli (vx_runSW (As := [.ref (h 0), .int (xs (x4 + 1).toNatClampNeg), .int (xs (x4 + 2).toNatClampNeg), .int (xs (x4 + 3).toNatClampNeg), .ref (h 45)]) (rest := []) ⟨hx, hb, hml, hown, hts⟩ (t_L_sample l hst dC dI h k _ st (xs (x4 + 1).toNatClampNeg) (xs (x4 + 2).toNatClampNeg) (xs (x4 + 3).toNatClampNeg) hwL) (vx_cwSW 5 hts (gS m_332 m_333 m_0 (cw_call m_334)) rfl rfl rfl (by decide +kernel) ⟨Nat.le_of_ble_eq_true rfl, Nat.le_of_ble_eq_true rfl⟩) ⟨pRl_bl, fun U hU hW => ⟨rfl, pRx_at hPc hKc hN hDc hXn hT hZ hS hFc hU hW, va_Nc.moved hW.alike hC1, va_Nc.moved hW.alike hC2⟩⟩ rfl rfl hl.1 rfl (lv_room (Nat.le_of_ble_eq_true rfl)) d_L_law_457 ⟨by show cc + 1 ≤ 643214; omega, by show ss + 6 ≤ 7166462; omega⟩) hS (fun q _ h => hFc q h) hFc (fun r1 u1 t H1 locs ht hvm hw1 hB hz1 hk1 hS => ?_)
  obtain ⟨hP1, hD1⟩ := hB
  rw [ht] at hP1
  obtain ⟨hP, hD⟩ := va_swap (pre := []) (wc := WL h k st) (w1 := WL h k u1) (post := WM h' k' ms) hP hD hk1 hP1 rfl
  have hP : va_P (dC, dI) vwCl (WL h k u1 ++ WM h' k' ms) H1 := hP
  have hD : va_D (fun q : Nat => s.heap.size ≤ q) (WL h k u1 ++ WM h' k' ms) := hD
  refine lv_istore (lv' := [(5, .int r1), (0, .ref b), (1, .ref (h 0)), (2, .ref (h' 0)), (3, .ref (h 45)), (4, .int x4)]) hx hb d_L_law_460 hl (by decide) rfl (fun ls hl => ?_)
  refine lv_aload_n hx hb d_L_law_462 rfl (lv_at hl 3 rfl) ?_
  refine lv_aload_n hx hb d_L_law_463 rfl (lv_at hl 1 rfl) ?_
  refine lv_iload hx hb d_L_law_464 (lv_at hl 5 rfl) ?_
  refine lv_iconst (v := 1) hx hb d_L_law_466 (by decide) ?_
  refine lv_iadd hx hb d_L_law_467 ?_
  refine va_sld hx hb hX hbl hbA hS hi1 d_L_law_468 ?_
  refine lv_aload_n hx hb d_L_law_469 rfl (lv_at hl 1 rfl) ?_
  refine lv_iload hx hb d_L_law_470 (lv_at hl 5 rfl) ?_
  refine lv_iconst (v := 2) hx hb d_L_law_472 (by decide) ?_
  refine lv_iadd hx hb d_L_law_473 ?_
  refine va_sld hx hb hX hbl hbA hS hi2 d_L_law_474 ?_
  refine lv_aload_n hx hb d_L_law_475 rfl (lv_at hl 1 rfl) ?_
  refine lv_iload hx hb d_L_law_476 (lv_at hl 5 rfl) ?_
  refine lv_iconst (v := 3) hx hb d_L_law_478 (by decide) ?_
  refine lv_iadd hx hb d_L_law_479 ?_
  refine va_sld hx hb hX hbl hbA hS hi3 d_L_law_480 ?_
  have hPc := va_P_r hP
  have hKc := hK.sub (tys' := YM k') [13, 14, 15, 16, 17] rfl
  have hDc := va_D_r hD
  have hFc := va_freeA hDc hS hA
  refine va_calll (va_runV (As := [.int (xs (x4 + 1).toNatClampNeg), .int (xs (x4 + 2).toNatClampNeg), .int (xs (x4 + 3).toNatClampNeg)]) (rest := []) ⟨hx, hb, hml, hown, hts⟩ (t_M_sample l dC dI h' k' _ ms (xs (x4 + 1).toNatClampNeg) (xs (x4 + 2).toNatClampNeg) (xs (x4 + 3).toNatClampNeg) hwM) (cwV 3 hts (gV m_500 m_501 m_502 m_5 (cw_call m_503)) rfl rfl rfl (by decide +kernel) ⟨Nat.le_of_ble_eq_true rfl, Nat.le_of_ble_eq_true rfl⟩) ⟨pRw_bl, va_recv hKc hPc (ci := 2) (q0 := 0) rfl rfl, fun U hU hW => ⟨rfl, pRw_at hPc hKc hN hDc hU hW⟩⟩ rfl rfl hl.1 rfl (lv_room (Nat.le_of_ble_eq_true rfl)) d_L_law_481 ⟨by show cc + 1 + 0 ≤ 643214; omega, by show ss + 6 + 0 ≤ 7166462; omega⟩) hS (fun q _ h => hFc q h) hFc (fun r2 u2 t H2 locs ht hvm hw2 hB hz1 hk1 hS => ?_)
  obtain ⟨hP1, hD1⟩ := hB
  rw [ht] at hP1
  obtain ⟨hP, hD⟩ := va_swapT (pre := WL h k u1) (wc := WM h' k' ms) (w1 := WM h' k' u2) hP hD hk1 hP1 rfl
  refine lv_lstore (lv' := [(6, .long r2), (5, .int r1), (0, .ref b), (1, .ref (h 0)), (2, .ref (h' 0)), (3, .ref (h 45)), (4, .int x4)]) hx hb d_L_law_484 hl (by decide) rfl (fun ls hl => ?_)
  refine lv_aload_n hx hb d_L_law_486 rfl (lv_at hl 4 rfl) ?_
  have hPc := va_P_r hP
  have hKc := hK.sub (tys' := YM k') [13, 14, 15, 16, 17] rfl
  refine vp_callSi (va_Run.run (va_runV (As := []) (rest := []) ⟨hx, hb, hml, hown, hts⟩ (t_M_thrown l dC dI h' k' u2 (post := fun r => r = MS.code u2) rfl) (cwV 0 hts (gV m_422 m_423 m_424 m_5 (cw_call m_425)) rfl rfl rfl (by decide +kernel) ⟨Nat.le_of_ble_eq_true rfl, Nat.le_of_ble_eq_true rfl⟩) ⟨pRo_bl, va_recv hKc hPc (ci := 2) (q0 := 0) rfl rfl, fun U hU hW => ⟨rfl, pRo_at hPc hKc hN hU hW⟩⟩ rfl rfl hl.1 rfl (lv_room (Nat.le_of_ble_eq_true rfl)) d_L_law_487 ⟨by show cc + 1 + 0 ≤ 643214; omega, by show ss + 6 + 0 ≤ 7166462; omega⟩)) (fun r3 hw3 => ?_)
  refine lv_iload hx hb d_L_law_490 (lv_at hl 1 rfl) ?_
  refine lv_icmp_eq (tgt := 497) hx hb d_L_law_492 (by decide) (fun _ => ?_) (fun cz => absurd (hw3.trans (hw2.2.1.trans hw1.2.1.symm)) cz)
  refine lv_iload hx hb d_L_law_497 (lv_at hl 1 rfl) ?_
  refine lv_if_ne (tgt := 513) hx hb d_L_law_499 (by decide) (fun _ => ?_) (fun c5 => ?_)
  · skip
    refine lv_goto (tgt := 789) hx hb d_L_law_513 (by decide) ?_
    exact hk u1 u2 _ _ ls ⟨n1, a1, b1, c1, hw1.1, hw2.1⟩ hP hD hS (lv_sub hl [2, 3, 4, 5, 6] rfl)
  · have hz : cd = 0 := hw1.2.1.symm.trans c5
    refine lv_aload_n hx hb d_L_law_502 rfl (lv_at hl 5 rfl) ?_
    refine lv_iconst (v := 0) hx hb d_L_law_503 (by decide) ?_
    refine va_lald hx hb hK hP 0 0 rfl rfl (show vp_in (nI 0) 1 from vp_in_nI (by decide) (by decide)) d_L_law_504 ?_
    refine lv_lload hx hb d_L_law_505 (lv_at hl 0 rfl) ?_
    refine W.lcmp hx hb d_L_law_507 ?_
    refine lv_if_eq (tgt := 513) hx hb d_L_law_508 (by decide) (fun _ => ?_) (fun cz => absurd (lgc_eq.mpr ((hw1.2.2 hz).trans (hw2.2.2 hz).symm)) cz)
    refine lv_goto (tgt := 789) hx hb d_L_law_513 (by decide) ?_
    exact hk u1 u2 _ _ ls ⟨n1, a1, b1, c1, hw1.1, hw2.1⟩ hP hD hS (lv_sub hl [2, 3, 4, 5, 6] rfl)
set_option maxHeartbeats 4000000 in
set_option maxRecDepth 100000 in
theorem q_sign {p : Program} {l : Launch} {e : Env} {s : State} {m : MethodId} {below : List Frame} {meth : Method} {c : Code} {b L : Nat} {xs : Nat → Int32} (hst : l.stackTraces = false) (C0 : lw_At p s m meth c b L xs) {dC : Nat → ClassId} {dI : Nat → Nat → Nat} {h h' : Nat → Nat} {k k' : Nat → ClassId} (hF : lwF s) (hK : va_K (dC, dI) vwCl (YL k ++ YM k') s) {x4 : Int32} (hi : ∀ j : Int32, j = 1 ∨ j = 2 ∨ j = 3 ∨ j = 4 → vp_in (x4 + j) L) {cc ss : Nat} (hcc : cc + 1 ≤ 643214) (hss : ss + 6 ≤ 7166462) (hk : lwK p l e s m below meth c b dC dI h k h' k' x4 (cc + 1) (ss + 6)) {st : QS} {ms : MS} (hI : bInv st ms) {H : Heap} {locs : List Loc} (hP : va_P (dC, dI) vwCl (WL h k st ++ WM h' k' ms) H) (hD : va_D (fun q : Nat => s.heap.size ≤ q) (WL h k st ++ WM h' k' ms)) (hS : va_S (fun q : Nat => s.heap.size ≤ q) s.heap H locs) {ls : Array Slot} (hl : lv_has ls 8 [(0, .ref b), (1, .ref (h 0)), (2, .ref (h' 0)), (3, .ref (h 45)), (4, .int x4)]) : W p l e room_1 s m #[Value.ref b] below meth c H locs cc ss (lw_Z below #[Value.ref b] s) (F0 m 516 ls []) := by
  obtain ⟨hx, hb, hr, hml, hown0, hts0, hX, hbl, hlocks, -⟩ := C0
  have hown : s.vm.findClass RL = some m.cls := hown0
  have hts : ∀ w ∈ cw, w.before #[Value.ref b] s = true := fun w hw => hts0 w (cw_in hw)
  obtain ⟨hN, hXn, hT, hZ, hC1, hC2⟩ := hF
  have hA : ∀ q : Nat, s.heap.size ≤ q → (fun q : Nat => s.heap.size ≤ q) q := fun _ h => h
  have hbA : ¬ (fun q : Nat => s.heap.size ≤ q) b := Nat.not_le.mpr hbl
  have hi1 := hi 1 (by decide)
  have hi2 := hi 2 (by decide)
  obtain ⟨cd, V, n1, a1, b1, c1, hwL, hwM⟩ := b_sign hI (xs (x4 + 1).toNatClampNeg) (xs (x4 + 2).toNatClampNeg)
  refine lv_aload_n hx hb d_L_law_516 rfl (lv_at hl 1 rfl) ?_
  refine lv_aload_n hx hb d_L_law_517 rfl (lv_at hl 0 rfl) ?_
  refine lv_iload hx hb d_L_law_518 (lv_at hl 4 rfl) ?_
  refine lv_iconst (v := 1) hx hb d_L_law_520 (by decide) ?_
  refine lv_iadd hx hb d_L_law_521 ?_
  refine va_sld hx hb hX hbl hbA hS hi1 d_L_law_522 ?_
  refine lv_aload_n hx hb d_L_law_523 rfl (lv_at hl 0 rfl) ?_
  refine lv_iload hx hb d_L_law_524 (lv_at hl 4 rfl) ?_
  refine lv_iconst (v := 2) hx hb d_L_law_526 (by decide) ?_
  refine lv_iadd hx hb d_L_law_527 ?_
  refine va_sld hx hb hX hbl hbA hS hi2 d_L_law_528 ?_
  refine lv_aload_n hx hb d_L_law_529 rfl (lv_at hl 3 rfl) ?_
  have hPc := va_P_l hP
  have hDc := va_D_l hD
  have hKc := hK.sub (tys' := YL k) [0, 1, 2, 3, 4, 5, 6, 7, 8, 9, 10, 11, 12] rfl
  have hFc := va_freeA hDc hS hA
  refine va_calli (vx_runSW (As := [.ref (h 0), .int (xs (x4 + 1).toNatClampNeg), .int (xs (x4 + 2).toNatClampNeg), .ref (h 45)]) (rest := []) ⟨hx, hb, hml, hown, hts⟩ (t_L_sign l hst dC dI h k _ st (xs (x4 + 1).toNatClampNeg) (xs (x4 + 2).toNatClampNeg) hwL) (vx_cwSW 4 hts (gS m_340 m_341 m_0 (cw_call m_342)) rfl rfl rfl (by decide +kernel) ⟨Nat.le_of_ble_eq_true rfl, Nat.le_of_ble_eq_true rfl⟩) ⟨pRl_bl, fun U hU hW => ⟨rfl, pRx_at hPc hKc hN hDc hXn hT hZ hS hFc hU hW, va_Nc.moved hW.alike hC1, va_Nc.moved hW.alike hC2⟩⟩ rfl rfl hl.1 rfl (lv_room (Nat.le_of_ble_eq_true rfl)) d_L_law_530 ⟨by show cc + 1 ≤ 643214; omega, by show ss + 6 ≤ 7166462; omega⟩) hS (fun q _ h => hFc q h) hFc (fun r1 u1 t H1 locs ht hvm hw1 hB hz1 hk1 hS => ?_)
  obtain ⟨hP1, hD1⟩ := hB
  rw [ht] at hP1
  obtain ⟨hP, hD⟩ := va_swap (pre := []) (wc := WL h k st) (w1 := WL h k u1) (post := WM h' k' ms) hP hD hk1 hP1 rfl
  have hP : va_P (dC, dI) vwCl (WL h k u1 ++ WM h' k' ms) H1 := hP
  have hD : va_D (fun q : Nat => s.heap.size ≤ q) (WL h k u1 ++ WM h' k' ms) := hD
  refine lv_istore (lv' := [(5, .int r1), (0, .ref b), (1, .ref (h 0)), (2, .ref (h' 0)), (3, .ref (h 45)), (4, .int x4)]) hx hb d_L_law_533 hl (by decide) rfl (fun ls hl => ?_)
  refine lv_aload_n hx hb d_L_law_535 rfl (lv_at hl 3 rfl) ?_
  refine lv_aload_n hx hb d_L_law_536 rfl (lv_at hl 1 rfl) ?_
  refine lv_iload hx hb d_L_law_537 (lv_at hl 5 rfl) ?_
  refine lv_iconst (v := 1) hx hb d_L_law_539 (by decide) ?_
  refine lv_iadd hx hb d_L_law_540 ?_
  refine va_sld hx hb hX hbl hbA hS hi1 d_L_law_541 ?_
  refine lv_aload_n hx hb d_L_law_542 rfl (lv_at hl 1 rfl) ?_
  refine lv_iload hx hb d_L_law_543 (lv_at hl 5 rfl) ?_
  refine lv_iconst (v := 2) hx hb d_L_law_545 (by decide) ?_
  refine lv_iadd hx hb d_L_law_546 ?_
  refine va_sld hx hb hX hbl hbA hS hi2 d_L_law_547 ?_
  have hPc := va_P_r hP
  have hKc := hK.sub (tys' := YM k') [13, 14, 15, 16, 17] rfl
  have hDc := va_D_r hD
  have hFc := va_freeA hDc hS hA
  refine va_calli (va_runV (As := [.int (xs (x4 + 1).toNatClampNeg), .int (xs (x4 + 2).toNatClampNeg)]) (rest := []) ⟨hx, hb, hml, hown, hts⟩ (t_M_sign l dC dI h' k' _ ms (xs (x4 + 1).toNatClampNeg) (xs (x4 + 2).toNatClampNeg) hwM) (cwV 2 hts (gV m_512 m_513 m_514 m_5 (cw_call m_515)) rfl rfl rfl (by decide +kernel) ⟨Nat.le_of_ble_eq_true rfl, Nat.le_of_ble_eq_true rfl⟩) ⟨pRw_bl, va_recv hKc hPc (ci := 2) (q0 := 0) rfl rfl, fun U hU hW => ⟨rfl, pRw_at hPc hKc hN hDc hU hW⟩⟩ rfl rfl hl.1 rfl (lv_room (Nat.le_of_ble_eq_true rfl)) d_L_law_548 ⟨by show cc + 1 + 0 ≤ 643214; omega, by show ss + 6 + 0 ≤ 7166462; omega⟩) hS (fun q _ h => hFc q h) hFc (fun r2 u2 t H2 locs ht hvm hw2 hB hz1 hk1 hS => ?_)
  obtain ⟨hP1, hD1⟩ := hB
  rw [ht] at hP1
  obtain ⟨hP, hD⟩ := va_swapT (pre := WL h k u1) (wc := WM h' k' ms) (w1 := WM h' k' u2) hP hD hk1 hP1 rfl
  refine lv_istore (lv' := [(6, .int r2), (5, .int r1), (0, .ref b), (1, .ref (h 0)), (2, .ref (h' 0)), (3, .ref (h 45)), (4, .int x4)]) hx hb d_L_law_551 hl (by decide) rfl (fun ls hl => ?_)
  refine lv_aload_n hx hb d_L_law_553 rfl (lv_at hl 4 rfl) ?_
  have hPc := va_P_r hP
  have hKc := hK.sub (tys' := YM k') [13, 14, 15, 16, 17] rfl
  refine vp_callSi (va_Run.run (va_runV (As := []) (rest := []) ⟨hx, hb, hml, hown, hts⟩ (t_M_thrown l dC dI h' k' u2 (post := fun r => r = MS.code u2) rfl) (cwV 0 hts (gV m_422 m_423 m_424 m_5 (cw_call m_425)) rfl rfl rfl (by decide +kernel) ⟨Nat.le_of_ble_eq_true rfl, Nat.le_of_ble_eq_true rfl⟩) ⟨pRo_bl, va_recv hKc hPc (ci := 2) (q0 := 0) rfl rfl, fun U hU hW => ⟨rfl, pRo_at hPc hKc hN hU hW⟩⟩ rfl rfl hl.1 rfl (lv_room (Nat.le_of_ble_eq_true rfl)) d_L_law_554 ⟨by show cc + 1 + 0 ≤ 643214; omega, by show ss + 6 + 0 ≤ 7166462; omega⟩)) (fun r3 hw3 => ?_)
  refine lv_iload hx hb d_L_law_557 (lv_at hl 1 rfl) ?_
  refine lv_icmp_eq (tgt := 564) hx hb d_L_law_559 (by decide) (fun _ => ?_) (fun cz => absurd (hw3.trans (hw2.2.1.trans hw1.2.1.symm)) cz)
  refine lv_iload hx hb d_L_law_564 (lv_at hl 1 rfl) ?_
  refine lv_if_ne (tgt := 581) hx hb d_L_law_566 (by decide) (fun _ => ?_) (fun c5 => ?_)
  · skip
    refine lv_goto (tgt := 789) hx hb d_L_law_581 (by decide) ?_
    exact hk u1 u2 _ _ ls ⟨n1, a1, b1, c1, hw1.1, hw2.1⟩ hP hD hS (lv_sub hl [2, 3, 4, 5, 6] rfl)
  · have hz : cd = 0 := hw1.2.1.symm.trans c5
    refine lv_aload_n hx hb d_L_law_569 rfl (lv_at hl 5 rfl) ?_
    refine lv_iconst (v := 0) hx hb d_L_law_570 (by decide) ?_
    refine va_lald hx hb hK hP 0 0 rfl rfl (show vp_in (nI 0) 1 from vp_in_nI (by decide) (by decide)) d_L_law_571 ?_
    refine lv_iload hx hb d_L_law_572 (lv_at hl 0 rfl) ?_
    refine lv_i2l (v := r2.toInt64) hx hb d_L_law_574 rfl ?_
    refine W.lcmp hx hb d_L_law_575 ?_
    refine lv_if_eq (tgt := 581) hx hb d_L_law_576 (by decide) (fun _ => ?_) (fun cz => absurd (lgc_eq.mpr ((hw1.2.2 hz).trans (by rw [hw2.2.2 hz]))) cz)
    refine lv_goto (tgt := 789) hx hb d_L_law_581 (by decide) ?_
    exact hk u1 u2 _ _ ls ⟨n1, a1, b1, c1, hw1.1, hw2.1⟩ hP hD hS (lv_sub hl [2, 3, 4, 5, 6] rfl)
set_option maxHeartbeats 4000000 in
set_option maxRecDepth 100000 in
theorem q_at {p : Program} {l : Launch} {e : Env} {s : State} {m : MethodId} {below : List Frame} {meth : Method} {c : Code} {b L : Nat} {xs : Nat → Int32} (hst : l.stackTraces = false) (C0 : lw_At p s m meth c b L xs) {dC : Nat → ClassId} {dI : Nat → Nat → Nat} {h h' : Nat → Nat} {k k' : Nat → ClassId} (hF : lwF s) (hK : va_K (dC, dI) vwCl (YL k ++ YM k') s) {x4 : Int32} (hi : ∀ j : Int32, j = 1 ∨ j = 2 ∨ j = 3 ∨ j = 4 → vp_in (x4 + j) L) {cc ss : Nat} (hcc : cc + 1 ≤ 643214) (hss : ss + 6 ≤ 7166462) (hk : lwK p l e s m below meth c b dC dI h k h' k' x4 (cc + 1) (ss + 6)) {st : QS} {ms : MS} (hI : bInv st ms) {H : Heap} {locs : List Loc} (hP : va_P (dC, dI) vwCl (WL h k st ++ WM h' k' ms) H) (hD : va_D (fun q : Nat => s.heap.size ≤ q) (WL h k st ++ WM h' k' ms)) (hS : va_S (fun q : Nat => s.heap.size ≤ q) s.heap H locs) {ls : Array Slot} (hl : lv_has ls 8 [(0, .ref b), (1, .ref (h 0)), (2, .ref (h' 0)), (3, .ref (h 45)), (4, .int x4)]) : W p l e room_1 s m #[Value.ref b] below meth c H locs cc ss (lw_Z below #[Value.ref b] s) (F0 m 584 ls []) := by
  obtain ⟨hx, hb, hr, hml, hown0, hts0, hX, hbl, hlocks, -⟩ := C0
  have hown : s.vm.findClass RL = some m.cls := hown0
  have hts : ∀ w ∈ cw, w.before #[Value.ref b] s = true := fun w hw => hts0 w (cw_in hw)
  obtain ⟨hN, hXn, hT, hZ, hC1, hC2⟩ := hF
  have hA : ∀ q : Nat, s.heap.size ≤ q → (fun q : Nat => s.heap.size ≤ q) q := fun _ h => h
  have hbA : ¬ (fun q : Nat => s.heap.size ≤ q) b := Nat.not_le.mpr hbl
  have hi1 := hi 1 (by decide)
  have hi2 := hi 2 (by decide)
  have hi3 := hi 3 (by decide)
  have hi4 := hi 4 (by decide)
  obtain ⟨cd, V, n1, a1, b1, c1, hwL, hwM⟩ := b_at hI (xs (x4 + 1).toNatClampNeg) (xs (x4 + 2).toNatClampNeg) (xs (x4 + 3).toNatClampNeg) (xs (x4 + 4).toNatClampNeg)
  refine lv_aload_n hx hb d_L_law_584 rfl (lv_at hl 1 rfl) ?_
  refine lv_aload_n hx hb d_L_law_585 rfl (lv_at hl 0 rfl) ?_
  refine lv_iload hx hb d_L_law_586 (lv_at hl 4 rfl) ?_
  refine lv_iconst (v := 1) hx hb d_L_law_588 (by decide) ?_
  refine lv_iadd hx hb d_L_law_589 ?_
  refine va_sld hx hb hX hbl hbA hS hi1 d_L_law_590 ?_
  refine lv_aload_n hx hb d_L_law_591 rfl (lv_at hl 0 rfl) ?_
  refine lv_iload hx hb d_L_law_592 (lv_at hl 4 rfl) ?_
  refine lv_iconst (v := 2) hx hb d_L_law_594 (by decide) ?_
  refine lv_iadd hx hb d_L_law_595 ?_
  refine va_sld hx hb hX hbl hbA hS hi2 d_L_law_596 ?_
  refine lv_aload_n hx hb d_L_law_597 rfl (lv_at hl 0 rfl) ?_
  refine lv_iload hx hb d_L_law_598 (lv_at hl 4 rfl) ?_
  refine lv_iconst (v := 3) hx hb d_L_law_600 (by decide) ?_
  refine lv_iadd hx hb d_L_law_601 ?_
  refine va_sld hx hb hX hbl hbA hS hi3 d_L_law_602 ?_
  refine lv_aload_n hx hb d_L_law_603 rfl (lv_at hl 0 rfl) ?_
  refine lv_iload hx hb d_L_law_604 (lv_at hl 4 rfl) ?_
  refine lv_iconst (v := 4) hx hb d_L_law_606 (by decide) ?_
  refine lv_iadd hx hb d_L_law_607 ?_
  refine va_sld hx hb hX hbl hbA hS hi4 d_L_law_608 ?_
  refine lv_aload_n hx hb d_L_law_609 rfl (lv_at hl 3 rfl) ?_
  have hPc := va_P_l hP
  have hDc := va_D_l hD
  have hKc := hK.sub (tys' := YL k) [0, 1, 2, 3, 4, 5, 6, 7, 8, 9, 10, 11, 12] rfl
  have hFc := va_freeA hDc hS hA
  refine va_calli (vx_runSW (As := [.ref (h 0), .int (xs (x4 + 1).toNatClampNeg), .int (xs (x4 + 2).toNatClampNeg), .int (xs (x4 + 3).toNatClampNeg), .int (xs (x4 + 4).toNatClampNeg), .ref (h 45)]) (rest := []) ⟨hx, hb, hml, hown, hts⟩ (t_L_at l hst dC dI h k _ st (xs (x4 + 1).toNatClampNeg) (xs (x4 + 2).toNatClampNeg) (xs (x4 + 3).toNatClampNeg) (xs (x4 + 4).toNatClampNeg) hwL) (vx_cwSW 6 hts (gS m_347 m_348 m_0 (cw_call m_349)) rfl rfl rfl (by decide +kernel) ⟨Nat.le_of_ble_eq_true rfl, Nat.le_of_ble_eq_true rfl⟩) ⟨pRl_bl, fun U hU hW => ⟨rfl, pRx_at hPc hKc hN hDc hXn hT hZ hS hFc hU hW, va_Nc.moved hW.alike hC1, va_Nc.moved hW.alike hC2⟩⟩ rfl rfl hl.1 rfl (lv_room (Nat.le_of_ble_eq_true rfl)) d_L_law_610 ⟨by show cc + 1 ≤ 643214; omega, by show ss + 6 ≤ 7166462; omega⟩) hS (fun q _ h => hFc q h) hFc (fun r1 u1 t H1 locs ht hvm hw1 hB hz1 hk1 hS => ?_)
  obtain ⟨hP1, hD1⟩ := hB
  rw [ht] at hP1
  obtain ⟨hP, hD⟩ := va_swap (pre := []) (wc := WL h k st) (w1 := WL h k u1) (post := WM h' k' ms) hP hD hk1 hP1 rfl
  have hP : va_P (dC, dI) vwCl (WL h k u1 ++ WM h' k' ms) H1 := hP
  have hD : va_D (fun q : Nat => s.heap.size ≤ q) (WL h k u1 ++ WM h' k' ms) := hD
  refine lv_istore (lv' := [(5, .int r1), (0, .ref b), (1, .ref (h 0)), (2, .ref (h' 0)), (3, .ref (h 45)), (4, .int x4)]) hx hb d_L_law_613 hl (by decide) rfl (fun ls hl => ?_)
  refine lv_aload_n hx hb d_L_law_615 rfl (lv_at hl 3 rfl) ?_
  refine lv_aload_n hx hb d_L_law_616 rfl (lv_at hl 1 rfl) ?_
  refine lv_iload hx hb d_L_law_617 (lv_at hl 5 rfl) ?_
  refine lv_iconst (v := 1) hx hb d_L_law_619 (by decide) ?_
  refine lv_iadd hx hb d_L_law_620 ?_
  refine va_sld hx hb hX hbl hbA hS hi1 d_L_law_621 ?_
  refine lv_aload_n hx hb d_L_law_622 rfl (lv_at hl 1 rfl) ?_
  refine lv_iload hx hb d_L_law_623 (lv_at hl 5 rfl) ?_
  refine lv_iconst (v := 2) hx hb d_L_law_625 (by decide) ?_
  refine lv_iadd hx hb d_L_law_626 ?_
  refine va_sld hx hb hX hbl hbA hS hi2 d_L_law_627 ?_
  refine lv_aload_n hx hb d_L_law_628 rfl (lv_at hl 1 rfl) ?_
  refine lv_iload hx hb d_L_law_629 (lv_at hl 5 rfl) ?_
  refine lv_iconst (v := 3) hx hb d_L_law_631 (by decide) ?_
  refine lv_iadd hx hb d_L_law_632 ?_
  refine va_sld hx hb hX hbl hbA hS hi3 d_L_law_633 ?_
  refine lv_aload_n hx hb d_L_law_634 rfl (lv_at hl 1 rfl) ?_
  refine lv_iload hx hb d_L_law_635 (lv_at hl 5 rfl) ?_
  refine lv_iconst (v := 4) hx hb d_L_law_637 (by decide) ?_
  refine lv_iadd hx hb d_L_law_638 ?_
  refine va_sld hx hb hX hbl hbA hS hi4 d_L_law_639 ?_
  have hPc := va_P_r hP
  have hKc := hK.sub (tys' := YM k') [13, 14, 15, 16, 17] rfl
  have hDc := va_D_r hD
  have hFc := va_freeA hDc hS hA
  refine va_calli (va_runV (As := [.int (xs (x4 + 1).toNatClampNeg), .int (xs (x4 + 2).toNatClampNeg), .int (xs (x4 + 3).toNatClampNeg), .int (xs (x4 + 4).toNatClampNeg)]) (rest := []) ⟨hx, hb, hml, hown, hts⟩ (t_M_at l dC dI h' k' _ ms (xs (x4 + 1).toNatClampNeg) (xs (x4 + 2).toNatClampNeg) (xs (x4 + 3).toNatClampNeg) (xs (x4 + 4).toNatClampNeg) hwM) (cwV 4 hts (gV m_520 m_521 m_522 m_5 (cw_call m_523)) rfl rfl rfl (by decide +kernel) ⟨Nat.le_of_ble_eq_true rfl, Nat.le_of_ble_eq_true rfl⟩) ⟨pRw_bl, va_recv hKc hPc (ci := 2) (q0 := 0) rfl rfl, fun U hU hW => ⟨rfl, pRw_at hPc hKc hN hDc hU hW⟩⟩ rfl rfl hl.1 rfl (lv_room (Nat.le_of_ble_eq_true rfl)) d_L_law_640 ⟨by show cc + 1 + 0 ≤ 643214; omega, by show ss + 6 + 0 ≤ 7166462; omega⟩) hS (fun q _ h => hFc q h) hFc (fun r2 u2 t H2 locs ht hvm hw2 hB hz1 hk1 hS => ?_)
  obtain ⟨hP1, hD1⟩ := hB
  rw [ht] at hP1
  obtain ⟨hP, hD⟩ := va_swapT (pre := WL h k u1) (wc := WM h' k' ms) (w1 := WM h' k' u2) hP hD hk1 hP1 rfl
  refine lv_istore (lv' := [(6, .int r2), (5, .int r1), (0, .ref b), (1, .ref (h 0)), (2, .ref (h' 0)), (3, .ref (h 45)), (4, .int x4)]) hx hb d_L_law_643 hl (by decide) rfl (fun ls hl => ?_)
  refine lv_aload_n hx hb d_L_law_645 rfl (lv_at hl 4 rfl) ?_
  have hPc := va_P_r hP
  have hKc := hK.sub (tys' := YM k') [13, 14, 15, 16, 17] rfl
  refine vp_callSi (va_Run.run (va_runV (As := []) (rest := []) ⟨hx, hb, hml, hown, hts⟩ (t_M_thrown l dC dI h' k' u2 (post := fun r => r = MS.code u2) rfl) (cwV 0 hts (gV m_422 m_423 m_424 m_5 (cw_call m_425)) rfl rfl rfl (by decide +kernel) ⟨Nat.le_of_ble_eq_true rfl, Nat.le_of_ble_eq_true rfl⟩) ⟨pRo_bl, va_recv hKc hPc (ci := 2) (q0 := 0) rfl rfl, fun U hU hW => ⟨rfl, pRo_at hPc hKc hN hU hW⟩⟩ rfl rfl hl.1 rfl (lv_room (Nat.le_of_ble_eq_true rfl)) d_L_law_646 ⟨by show cc + 1 + 0 ≤ 643214; omega, by show ss + 6 + 0 ≤ 7166462; omega⟩)) (fun r3 hw3 => ?_)
  refine lv_iload hx hb d_L_law_649 (lv_at hl 1 rfl) ?_
  refine lv_icmp_eq (tgt := 656) hx hb d_L_law_651 (by decide) (fun _ => ?_) (fun cz => absurd (hw3.trans (hw2.2.1.trans hw1.2.1.symm)) cz)
  refine lv_iload hx hb d_L_law_656 (lv_at hl 1 rfl) ?_
  refine lv_if_ne (tgt := 673) hx hb d_L_law_658 (by decide) (fun _ => ?_) (fun c5 => ?_)
  · skip
    refine lv_goto (tgt := 789) hx hb d_L_law_673 (by decide) ?_
    exact hk u1 u2 _ _ ls ⟨n1, a1, b1, c1, hw1.1, hw2.1⟩ hP hD hS (lv_sub hl [2, 3, 4, 5, 6] rfl)
  · have hz : cd = 0 := hw1.2.1.symm.trans c5
    refine lv_aload_n hx hb d_L_law_661 rfl (lv_at hl 5 rfl) ?_
    refine lv_iconst (v := 0) hx hb d_L_law_662 (by decide) ?_
    refine va_lald hx hb hK hP 0 0 rfl rfl (show vp_in (nI 0) 1 from vp_in_nI (by decide) (by decide)) d_L_law_663 ?_
    refine lv_iload hx hb d_L_law_664 (lv_at hl 0 rfl) ?_
    refine lv_i2l (v := r2.toInt64) hx hb d_L_law_666 rfl ?_
    refine W.lcmp hx hb d_L_law_667 ?_
    refine lv_if_eq (tgt := 673) hx hb d_L_law_668 (by decide) (fun _ => ?_) (fun cz => absurd (lgc_eq.mpr ((hw1.2.2 hz).trans (by rw [hw2.2.2 hz]))) cz)
    refine lv_goto (tgt := 789) hx hb d_L_law_673 (by decide) ?_
    exact hk u1 u2 _ _ ls ⟨n1, a1, b1, c1, hw1.1, hw2.1⟩ hP hD hS (lv_sub hl [2, 3, 4, 5, 6] rfl)
set_option maxHeartbeats 4000000 in
set_option maxRecDepth 100000 in
theorem q_find {p : Program} {l : Launch} {e : Env} {s : State} {m : MethodId} {below : List Frame} {meth : Method} {c : Code} {b L : Nat} {xs : Nat → Int32} (hst : l.stackTraces = false) (C0 : lw_At p s m meth c b L xs) {dC : Nat → ClassId} {dI : Nat → Nat → Nat} {h h' : Nat → Nat} {k k' : Nat → ClassId} (hF : lwF s) (hK : va_K (dC, dI) vwCl (YL k ++ YM k') s) {x4 : Int32} (hi : ∀ j : Int32, j = 1 ∨ j = 2 ∨ j = 3 ∨ j = 4 → vp_in (x4 + j) L) {cc ss : Nat} (hcc : cc + 1 ≤ 643214) (hss : ss + 6 ≤ 7166462) (hk : lwK p l e s m below meth c b dC dI h k h' k' x4 (cc + 1) (ss + 6)) {st : QS} {ms : MS} (hI : bInv st ms) {H : Heap} {locs : List Loc} (hP : va_P (dC, dI) vwCl (WL h k st ++ WM h' k' ms) H) (hD : va_D (fun q : Nat => s.heap.size ≤ q) (WL h k st ++ WM h' k' ms)) (hS : va_S (fun q : Nat => s.heap.size ≤ q) s.heap H locs) {ls : Array Slot} (hl : lv_has ls 8 [(0, .ref b), (1, .ref (h 0)), (2, .ref (h' 0)), (3, .ref (h 45)), (4, .int x4)]) : W p l e room_1 s m #[Value.ref b] below meth c H locs cc ss (lw_Z below #[Value.ref b] s) (F0 m 676 ls []) := by
  obtain ⟨hx, hb, hr, hml, hown0, hts0, hX, hbl, hlocks, -⟩ := C0
  have hown : s.vm.findClass RL = some m.cls := hown0
  have hts : ∀ w ∈ cw, w.before #[Value.ref b] s = true := fun w hw => hts0 w (cw_in hw)
  obtain ⟨hN, hXn, hT, hZ, hC1, hC2⟩ := hF
  have hA : ∀ q : Nat, s.heap.size ≤ q → (fun q : Nat => s.heap.size ≤ q) q := fun _ h => h
  have hbA : ¬ (fun q : Nat => s.heap.size ≤ q) b := Nat.not_le.mpr hbl
  have hi1 := hi 1 (by decide)
  obtain ⟨V, hwC, hwM⟩ := b_find hI (xs (x4 + 1).toNatClampNeg)
  refine W.widen (k := cc + 1) (n := ss + 6) (by omega) (by omega) ?_
  refine lv_aload_n hx hb d_L_law_676 rfl (lv_at hl 1 rfl) ?_
  refine lv_aload_n hx hb d_L_law_677 rfl (lv_at hl 0 rfl) ?_
  refine lv_iload hx hb d_L_law_678 (lv_at hl 4 rfl) ?_
  refine lv_iconst (v := 1) hx hb d_L_law_680 (by decide) ?_
  refine lv_iadd hx hb d_L_law_681 ?_
  refine va_sld hx hb hX hbl hbA hS hi1 d_L_law_682 ?_
  have hPc := va_P_r (a := [(h 45, .inl (k 45, 1, .inr (.inl (QS.o st))))]) (va_P_l hP)
  have hKc := hK.sub (tys' := YC k) [1, 2, 3, 4, 5, 6, 7, 8, 9, 10, 11, 12] rfl
  refine vp_callSi (va_Run.run (va_runV (As := [.int (xs (x4 + 1).toNatClampNeg)]) (rest := []) ⟨hx, hb, hml, hown, hts⟩ (t_C_find l dC dI h k (QS.x st) (xs (x4 + 1).toNatClampNeg) hwC) (cwV 1 hts (gV m_144 m_145 m_146 m_1 (cw_call m_147)) rfl rfl rfl (by decide +kernel) ⟨Nat.le_of_ble_eq_true rfl, Nat.le_of_ble_eq_true rfl⟩) ⟨pRo_bl, va_recv hKc hPc (ci := 1) (q0 := 0) rfl rfl, fun U hU hW => ⟨rfl, pRo_at hPc hKc hN hU hW⟩⟩ rfl rfl hl.1 rfl (lv_room (Nat.le_of_ble_eq_true rfl)) d_L_law_683 ⟨by show cc + 1 + 0 ≤ 643214; omega, by show ss + 6 + 0 ≤ 7166462; omega⟩)) (fun r1 hw1 => ?_)
  refine lv_aload_n hx hb d_L_law_686 rfl (lv_at hl 2 rfl) ?_
  refine lv_aload_n hx hb d_L_law_687 rfl (lv_at hl 0 rfl) ?_
  refine lv_iload hx hb d_L_law_688 (lv_at hl 4 rfl) ?_
  refine lv_iconst (v := 1) hx hb d_L_law_690 (by decide) ?_
  refine lv_iadd hx hb d_L_law_691 ?_
  refine va_sld hx hb hX hbl hbA hS hi1 d_L_law_692 ?_
  have hPc := va_P_r hP
  have hKc := hK.sub (tys' := YM k') [13, 14, 15, 16, 17] rfl
  have hDc := va_D_r hD
  have hFc := va_freeA hDc hS hA
  refine va_calli (va_runV (As := [.int (xs (x4 + 1).toNatClampNeg)]) (rest := [.int r1]) ⟨hx, hb, hml, hown, hts⟩ (t_M_find l dC dI h' k' _ ms (xs (x4 + 1).toNatClampNeg) hwM) (cwV 1 hts (gV m_526 m_527 m_528 m_5 (cw_call m_529)) rfl rfl rfl (by decide +kernel) ⟨Nat.le_of_ble_eq_true rfl, Nat.le_of_ble_eq_true rfl⟩) ⟨pRw_bl, va_recv hKc hPc (ci := 2) (q0 := 0) rfl rfl, fun U hU hW => ⟨rfl, pRw_at hPc hKc hN hDc hU hW⟩⟩ rfl rfl hl.1 rfl (lv_room (Nat.le_of_ble_eq_true rfl)) d_L_law_693 ⟨by show cc + 1 + 0 ≤ 643214; omega, by show ss + 6 + 0 ≤ 7166462; omega⟩) hS (fun q _ h => hFc q h) hFc (fun r2 u2 t H2 locs ht hvm hw2 hB hz1 hk1 hS => ?_)
  obtain ⟨hP1, hD1⟩ := hB
  rw [ht] at hP1
  obtain ⟨hP, hD⟩ := va_swapT (pre := WL h k st) (wc := WM h' k' ms) (w1 := WM h' k' u2) hP hD hk1 hP1 rfl
  refine lv_icmp_eq (tgt := 789) hx hb d_L_law_696 (by decide) (fun _ => ?_) (fun cz => absurd (hw1.trans hw2.2.symm) cz)
  exact hk st u2 _ _ ls hw2.1 hP hD hS (lv_sub hl [0, 1, 2, 3, 4] rfl)
set_option maxHeartbeats 4000000 in
set_option maxRecDepth 100000 in
theorem q_touch {p : Program} {l : Launch} {e : Env} {s : State} {m : MethodId} {below : List Frame} {meth : Method} {c : Code} {b L : Nat} {xs : Nat → Int32} (hst : l.stackTraces = false) (C0 : lw_At p s m meth c b L xs) {dC : Nat → ClassId} {dI : Nat → Nat → Nat} {h h' : Nat → Nat} {k k' : Nat → ClassId} (hF : lwF s) (hK : va_K (dC, dI) vwCl (YL k ++ YM k') s) {x4 : Int32} (hi : ∀ j : Int32, j = 1 ∨ j = 2 ∨ j = 3 ∨ j = 4 → vp_in (x4 + j) L) {cc ss : Nat} (hcc : cc + 1 ≤ 643214) (hss : ss + 6 ≤ 7166462) (hk : lwK p l e s m below meth c b dC dI h k h' k' x4 (cc + 1) (ss + 6)) {st : QS} {ms : MS} (hI : bInv st ms) {H : Heap} {locs : List Loc} (hP : va_P (dC, dI) vwCl (WL h k st ++ WM h' k' ms) H) (hD : va_D (fun q : Nat => s.heap.size ≤ q) (WL h k st ++ WM h' k' ms)) (hS : va_S (fun q : Nat => s.heap.size ≤ q) s.heap H locs) {ls : Array Slot} (hl : lv_has ls 8 [(0, .ref b), (1, .ref (h 0)), (2, .ref (h' 0)), (3, .ref (h 45)), (4, .int x4)]) : W p l e room_1 s m #[Value.ref b] below meth c H locs cc ss (lw_Z below #[Value.ref b] s) (F0 m 701 ls []) := by
  obtain ⟨hx, hb, hr, hml, hown0, hts0, hX, hbl, hlocks, -⟩ := C0
  have hown : s.vm.findClass RL = some m.cls := hown0
  have hts : ∀ w ∈ cw, w.before #[Value.ref b] s = true := fun w hw => hts0 w (cw_in hw)
  obtain ⟨hN, hXn, hT, hZ, hC1, hC2⟩ := hF
  have hA : ∀ q : Nat, s.heap.size ≤ q → (fun q : Nat => s.heap.size ≤ q) q := fun _ h => h
  have hbA : ¬ (fun q : Nat => s.heap.size ≤ q) b := Nat.not_le.mpr hbl
  have hi1 := hi 1 (by decide)
  have hi2 := hi 2 (by decide)
  obtain ⟨cd, V, n1, a1, b1, c1, hwL, hwM⟩ := b_touch hI (xs (x4 + 1).toNatClampNeg) (xs (x4 + 2).toNatClampNeg)
  refine lv_aload_n hx hb d_L_law_701 rfl (lv_at hl 1 rfl) ?_
  refine lv_aload_n hx hb d_L_law_702 rfl (lv_at hl 0 rfl) ?_
  refine lv_iload hx hb d_L_law_703 (lv_at hl 4 rfl) ?_
  refine lv_iconst (v := 1) hx hb d_L_law_705 (by decide) ?_
  refine lv_iadd hx hb d_L_law_706 ?_
  refine va_sld hx hb hX hbl hbA hS hi1 d_L_law_707 ?_
  refine lv_aload_n hx hb d_L_law_708 rfl (lv_at hl 0 rfl) ?_
  refine lv_iload hx hb d_L_law_709 (lv_at hl 4 rfl) ?_
  refine lv_iconst (v := 2) hx hb d_L_law_711 (by decide) ?_
  refine lv_iadd hx hb d_L_law_712 ?_
  refine va_sld hx hb hX hbl hbA hS hi2 d_L_law_713 ?_
  refine lv_aload_n hx hb d_L_law_714 rfl (lv_at hl 3 rfl) ?_
  have hPc := va_P_l hP
  have hDc := va_D_l hD
  have hKc := hK.sub (tys' := YL k) [0, 1, 2, 3, 4, 5, 6, 7, 8, 9, 10, 11, 12] rfl
  have hFc := va_freeA hDc hS hA
  refine va_calli (vx_runSW (As := [.ref (h 0), .int (xs (x4 + 1).toNatClampNeg), .int (xs (x4 + 2).toNatClampNeg), .ref (h 45)]) (rest := []) ⟨hx, hb, hml, hown, hts⟩ (t_L_touch l hst dC dI h k _ st (xs (x4 + 1).toNatClampNeg) (xs (x4 + 2).toNatClampNeg) hwL) (vx_cwSW 4 hts (gS m_359 m_360 m_0 (cw_call m_361)) rfl rfl rfl (by decide +kernel) ⟨Nat.le_of_ble_eq_true rfl, Nat.le_of_ble_eq_true rfl⟩) ⟨pRl_bl, fun U hU hW => ⟨rfl, pRx_at hPc hKc hN hDc hXn hT hZ hS hFc hU hW, va_Nc.moved hW.alike hC1, va_Nc.moved hW.alike hC2⟩⟩ rfl rfl hl.1 rfl (lv_room (Nat.le_of_ble_eq_true rfl)) d_L_law_715 ⟨by show cc + 1 ≤ 643214; omega, by show ss + 6 ≤ 7166462; omega⟩) hS (fun q _ h => hFc q h) hFc (fun r1 u1 t H1 locs ht hvm hw1 hB hz1 hk1 hS => ?_)
  obtain ⟨hP1, hD1⟩ := hB
  rw [ht] at hP1
  obtain ⟨hP, hD⟩ := va_swap (pre := []) (wc := WL h k st) (w1 := WL h k u1) (post := WM h' k' ms) hP hD hk1 hP1 rfl
  have hP : va_P (dC, dI) vwCl (WL h k u1 ++ WM h' k' ms) H1 := hP
  have hD : va_D (fun q : Nat => s.heap.size ≤ q) (WL h k u1 ++ WM h' k' ms) := hD
  refine lv_istore (lv' := [(5, .int r1), (0, .ref b), (1, .ref (h 0)), (2, .ref (h' 0)), (3, .ref (h 45)), (4, .int x4)]) hx hb d_L_law_718 hl (by decide) rfl (fun ls hl => ?_)
  refine lv_aload_n hx hb d_L_law_720 rfl (lv_at hl 3 rfl) ?_
  refine lv_aload_n hx hb d_L_law_721 rfl (lv_at hl 1 rfl) ?_
  refine lv_iload hx hb d_L_law_722 (lv_at hl 5 rfl) ?_
  refine lv_iconst (v := 1) hx hb d_L_law_724 (by decide) ?_
  refine lv_iadd hx hb d_L_law_725 ?_
  refine va_sld hx hb hX hbl hbA hS hi1 d_L_law_726 ?_
  refine lv_aload_n hx hb d_L_law_727 rfl (lv_at hl 1 rfl) ?_
  refine lv_iload hx hb d_L_law_728 (lv_at hl 5 rfl) ?_
  refine lv_iconst (v := 2) hx hb d_L_law_730 (by decide) ?_
  refine lv_iadd hx hb d_L_law_731 ?_
  refine va_sld hx hb hX hbl hbA hS hi2 d_L_law_732 ?_
  have hPc := va_P_r hP
  have hKc := hK.sub (tys' := YM k') [13, 14, 15, 16, 17] rfl
  have hDc := va_D_r hD
  have hFc := va_freeA hDc hS hA
  refine va_calli (va_runV (As := [.int (xs (x4 + 1).toNatClampNeg), .int (xs (x4 + 2).toNatClampNeg)]) (rest := []) ⟨hx, hb, hml, hown, hts⟩ (t_M_touch l dC dI h' k' _ ms (xs (x4 + 1).toNatClampNeg) (xs (x4 + 2).toNatClampNeg) hwM) (cwV 2 hts (gV m_534 m_535 m_536 m_5 (cw_call m_537)) rfl rfl rfl (by decide +kernel) ⟨Nat.le_of_ble_eq_true rfl, Nat.le_of_ble_eq_true rfl⟩) ⟨pRw_bl, va_recv hKc hPc (ci := 2) (q0 := 0) rfl rfl, fun U hU hW => ⟨rfl, pRw_at hPc hKc hN hDc hU hW⟩⟩ rfl rfl hl.1 rfl (lv_room (Nat.le_of_ble_eq_true rfl)) d_L_law_733 ⟨by show cc + 1 + 0 ≤ 643214; omega, by show ss + 6 + 0 ≤ 7166462; omega⟩) hS (fun q _ h => hFc q h) hFc (fun r2 u2 t H2 locs ht hvm hw2 hB hz1 hk1 hS => ?_)
  obtain ⟨hP1, hD1⟩ := hB
  rw [ht] at hP1
  obtain ⟨hP, hD⟩ := va_swapT (pre := WL h k u1) (wc := WM h' k' ms) (w1 := WM h' k' u2) hP hD hk1 hP1 rfl
  refine lv_istore (lv' := [(6, .int r2), (5, .int r1), (0, .ref b), (1, .ref (h 0)), (2, .ref (h' 0)), (3, .ref (h 45)), (4, .int x4)]) hx hb d_L_law_736 hl (by decide) rfl (fun ls hl => ?_)
  refine lv_aload_n hx hb d_L_law_738 rfl (lv_at hl 4 rfl) ?_
  have hPc := va_P_r hP
  have hKc := hK.sub (tys' := YM k') [13, 14, 15, 16, 17] rfl
  refine vp_callSi (va_Run.run (va_runV (As := []) (rest := []) ⟨hx, hb, hml, hown, hts⟩ (t_M_thrown l dC dI h' k' u2 (post := fun r => r = MS.code u2) rfl) (cwV 0 hts (gV m_422 m_423 m_424 m_5 (cw_call m_425)) rfl rfl rfl (by decide +kernel) ⟨Nat.le_of_ble_eq_true rfl, Nat.le_of_ble_eq_true rfl⟩) ⟨pRo_bl, va_recv hKc hPc (ci := 2) (q0 := 0) rfl rfl, fun U hU hW => ⟨rfl, pRo_at hPc hKc hN hU hW⟩⟩ rfl rfl hl.1 rfl (lv_room (Nat.le_of_ble_eq_true rfl)) d_L_law_739 ⟨by show cc + 1 + 0 ≤ 643214; omega, by show ss + 6 + 0 ≤ 7166462; omega⟩)) (fun r3 hw3 => ?_)
  refine lv_iload hx hb d_L_law_742 (lv_at hl 1 rfl) ?_
  refine lv_icmp_eq (tgt := 749) hx hb d_L_law_744 (by decide) (fun _ => ?_) (fun cz => absurd (hw3.trans (hw2.2.1.trans hw1.2.1.symm)) cz)
  refine lv_iload hx hb d_L_law_749 (lv_at hl 1 rfl) ?_
  refine lv_if_ne (tgt := 773) hx hb d_L_law_751 (by decide) (fun _ => ?_) (fun c5 => ?_)
  · skip
    refine lv_goto (tgt := 789) hx hb d_L_law_773 (by decide) ?_
    exact hk u1 u2 _ _ ls ⟨n1, a1, b1, c1, hw1.1, hw2.1⟩ hP hD hS (lv_sub hl [2, 3, 4, 5, 6] rfl)
  · have hz : cd = 0 := hw1.2.1.symm.trans c5
    refine lv_aload_n hx hb d_L_law_754 rfl (lv_at hl 5 rfl) ?_
    refine lv_iconst (v := 0) hx hb d_L_law_755 (by decide) ?_
    refine va_lald hx hb hK hP 0 0 rfl rfl (show vp_in (nI 0) 1 from vp_in_nI (by decide) (by decide)) d_L_law_756 ?_
    refine lv_iload hx hb d_L_law_757 (lv_at hl 0 rfl) ?_
    refine lv_if_eq (tgt := 766) hx hb d_L_law_759 (by decide) (fun c6 => ?_) (fun c6 => ?_)
    · skip
      refine lv_lconst (v := 0) hx hb d_L_law_766 (by decide) ?_
      refine W.lcmp hx hb d_L_law_767 ?_
      refine lv_if_eq (tgt := 773) hx hb d_L_law_768 (by decide) (fun _ => ?_) (fun cz => absurd (lgc_eq.mpr ((hw1.2.2 hz).trans (if_pos ((hw2.2.2 hz).symm.trans c6)))) cz)
      refine lv_goto (tgt := 789) hx hb d_L_law_773 (by decide) ?_
      exact hk u1 u2 _ _ ls ⟨n1, a1, b1, c1, hw1.1, hw2.1⟩ hP hD hS (lv_sub hl [2, 3, 4, 5, 6] rfl)
    · skip
      refine lv_lconst (v := 1) hx hb d_L_law_762 (by decide) ?_
      refine lv_goto (tgt := 767) hx hb d_L_law_763 (by decide) ?_
      refine W.lcmp hx hb d_L_law_767 ?_
      refine lv_if_eq (tgt := 773) hx hb d_L_law_768 (by decide) (fun _ => ?_) (fun cz => absurd (lgc_eq.mpr ((hw1.2.2 hz).trans (if_neg (fun v => c6 ((hw2.2.2 hz).trans v))))) cz)
      refine lv_goto (tgt := 789) hx hb d_L_law_773 (by decide) ?_
      exact hk u1 u2 _ _ ls ⟨n1, a1, b1, c1, hw1.1, hw2.1⟩ hP hD hS (lv_sub hl [2, 3, 4, 5, 6] rfl)
set_option maxHeartbeats 4000000 in
set_option maxRecDepth 100000 in
theorem q_lines {p : Program} {l : Launch} {e : Env} {s : State} {m : MethodId} {below : List Frame} {meth : Method} {c : Code} {b L : Nat} {xs : Nat → Int32} (hst : l.stackTraces = false) (C0 : lw_At p s m meth c b L xs) {dC : Nat → ClassId} {dI : Nat → Nat → Nat} {h h' : Nat → Nat} {k k' : Nat → ClassId} (hF : lwF s) (hK : va_K (dC, dI) vwCl (YL k ++ YM k') s) {x4 : Int32} (hi : ∀ j : Int32, j = 1 ∨ j = 2 ∨ j = 3 ∨ j = 4 → vp_in (x4 + j) L) {cc ss : Nat} (hcc : cc + 1 ≤ 643214) (hss : ss + 6 ≤ 7166462) (hk : lwK p l e s m below meth c b dC dI h k h' k' x4 (cc + 1) (ss + 6)) {st : QS} {ms : MS} (hI : bInv st ms) {H : Heap} {locs : List Loc} (hP : va_P (dC, dI) vwCl (WL h k st ++ WM h' k' ms) H) (hD : va_D (fun q : Nat => s.heap.size ≤ q) (WL h k st ++ WM h' k' ms)) (hS : va_S (fun q : Nat => s.heap.size ≤ q) s.heap H locs) {ls : Array Slot} (hl : lv_has ls 8 [(0, .ref b), (1, .ref (h 0)), (2, .ref (h' 0)), (3, .ref (h 45)), (4, .int x4)]) : W p l e room_1 s m #[Value.ref b] below meth c H locs cc ss (lw_Z below #[Value.ref b] s) (F0 m 776 ls []) := by
  obtain ⟨hx, hb, hr, hml, hown0, hts0, hX, hbl, hlocks, -⟩ := C0
  have hown : s.vm.findClass RL = some m.cls := hown0
  have hts : ∀ w ∈ cw, w.before #[Value.ref b] s = true := fun w hw => hts0 w (cw_in hw)
  obtain ⟨hN, hXn, hT, hZ, hC1, hC2⟩ := hF
  have hA : ∀ q : Nat, s.heap.size ≤ q → (fun q : Nat => s.heap.size ≤ q) q := fun _ h => h
  have hbA : ¬ (fun q : Nat => s.heap.size ≤ q) b := Nat.not_le.mpr hbl
  obtain ⟨V, hwC, hwM⟩ := b_lines hI 
  refine W.widen (k := cc + 1) (n := ss + 6) (by omega) (by omega) ?_
  refine lv_aload_n hx hb d_L_law_776 rfl (lv_at hl 1 rfl) ?_
  have hPc := va_P_r (a := [(h 45, .inl (k 45, 1, .inr (.inl (QS.o st))))]) (va_P_l hP)
  have hKc := hK.sub (tys' := YC k) [1, 2, 3, 4, 5, 6, 7, 8, 9, 10, 11, 12] rfl
  refine vp_callSi (va_Run.run (va_runV (As := []) (rest := []) ⟨hx, hb, hml, hown, hts⟩ (t_C_lines l dC dI h k (QS.x st)  hwC) (cwV 0 hts (gV m_166 m_167 m_168 m_1 (cw_call m_169)) rfl rfl rfl (by decide +kernel) ⟨Nat.le_of_ble_eq_true rfl, Nat.le_of_ble_eq_true rfl⟩) ⟨pRo_bl, va_recv hKc hPc (ci := 1) (q0 := 0) rfl rfl, fun U hU hW => ⟨rfl, pRo_at hPc hKc hN hU hW⟩⟩ rfl rfl hl.1 rfl (lv_room (Nat.le_of_ble_eq_true rfl)) d_L_law_777 ⟨by show cc + 1 + 0 ≤ 643214; omega, by show ss + 6 + 0 ≤ 7166462; omega⟩)) (fun r1 hw1 => ?_)
  refine lv_aload_n hx hb d_L_law_780 rfl (lv_at hl 2 rfl) ?_
  have hPc := va_P_r hP
  have hKc := hK.sub (tys' := YM k') [13, 14, 15, 16, 17] rfl
  have hDc := va_D_r hD
  have hFc := va_freeA hDc hS hA
  refine va_calli (va_runV (As := []) (rest := [.int r1]) ⟨hx, hb, hml, hown, hts⟩ (t_M_lines l dC dI h' k' _ ms  hwM) (cwV 0 hts (gV m_451 m_452 m_453 m_5 (cw_call m_454)) rfl rfl rfl (by decide +kernel) ⟨Nat.le_of_ble_eq_true rfl, Nat.le_of_ble_eq_true rfl⟩) ⟨pRw_bl, va_recv hKc hPc (ci := 2) (q0 := 0) rfl rfl, fun U hU hW => ⟨rfl, pRw_at hPc hKc hN hDc hU hW⟩⟩ rfl rfl hl.1 rfl (lv_room (Nat.le_of_ble_eq_true rfl)) d_L_law_781 ⟨by show cc + 1 + 0 ≤ 643214; omega, by show ss + 6 + 0 ≤ 7166462; omega⟩) hS (fun q _ h => hFc q h) hFc (fun r2 u2 t H2 locs ht hvm hw2 hB hz1 hk1 hS => ?_)
  obtain ⟨hP1, hD1⟩ := hB
  rw [ht] at hP1
  obtain ⟨hP, hD⟩ := va_swapT (pre := WL h k st) (wc := WM h' k' ms) (w1 := WM h' k' u2) hP hD hk1 hP1 rfl
  refine lv_icmp_eq (tgt := 789) hx hb d_L_law_784 (by decide) (fun _ => ?_) (fun cz => absurd (hw1.trans hw2.2.symm) cz)
  exact hk st u2 _ _ ls hw2.1 hP hD hS (lv_sub hl [0, 1, 2, 3, 4] rfl)
