def w_C_line (st : CS) (post : Int32 → CS → Prop) (px : String → CS → Prop) (p0 : Int32) (p1 : Int32) (p2 : Int32) : Prop := w_C_isFactor (fun r1 => ((r1 = 0 → (px eIA st)) ∧ (¬ r1 = 0 → (w_C_isFactor (fun r3 => ((r3 = 0 → (px eIA st)) ∧ (¬ r3 = 0 → (w_C_isFactor (fun r5 => ((¬ r5 = 0 → ((¬ p0 = 0 → (((CS.lc st) < 6 → (∀ y9 : Int32, y9 = (CS.lc st) → (vp_in y9 6 ∧ (w_C_rebuild (CS.set_lc (CS.set_c (CS.set_b (CS.set_a st (upd (CS.a st) y9.toNatClampNeg p0)) (upd (CS.b st) y9.toNatClampNeg p1)) (upd (CS.c st) y9.toNatClampNeg p2)) (y9 + 1)) (fun u11 => (post y9 u11)) )))) ∧ (¬ (CS.lc st) < 6 → (px eIS st)))) ∧ (p0 = 0 → ((¬ p1 = 0 → (((CS.lc st) < 6 → (∀ y14 : Int32, y14 = (CS.lc st) → (vp_in y14 6 ∧ (w_C_rebuild (CS.set_lc (CS.set_c (CS.set_b (CS.set_a st (upd (CS.a st) y14.toNatClampNeg p0)) (upd (CS.b st) y14.toNatClampNeg p1)) (upd (CS.c st) y14.toNatClampNeg p2)) (y14 + 1)) (fun u16 => (post y14 u16)) )))) ∧ (¬ (CS.lc st) < 6 → (px eIS st)))) ∧ (p1 = 0 → (px eIA st)))))) ∧ (r5 = 0 → (px eIA st)))) p2)))) p1)))) p0
set_option maxHeartbeats 4000000 in
set_option maxRecDepth 100000 in
theorem t_C_line (l : Launch) (hst : l.stackTraces = false) (dC : Nat → ClassId) (dI : Nat → Nat → Nat) (h : Nat → Nat) (k : Nat → ClassId) (sz : Nat) (st : CS) (p0 : Int32) (p1 : Int32) (p2 : Int32) {post : Int32 → CS → Prop} {px : String → CS → Prop} (hw : w_C_line st post px p0 p1 p2) : vx_Met l y_C_line (Cond.code y_C_line prog_1_method_2_code 5 (some .int) :: cw) ({ frames := 6, cells := 1, slots := 6, locals := 152 } : Room) (va_Pc [.ref (h 0), .int p0, .int p1, .int p2] (pRx (dC, dI) (WC h k st) (YC k) sz)) (va_Qi post (fun u t => va_P (dC, dI) vwCl (WC h k u) t.heap ∧ va_D (va_A (WC h k st) sz) (WC h k u)) (va_A (WC h k st) sz)) (vx_X (fun z : String × CS => px z.1 z.2) (fun E z t => z.1 = E ∧ va_P (dC, dI) vwCl (WC h k z.2) t.heap ∧ va_D (va_A (WC h k st) sz) (WC h k z.2)) (va_A (WC h k st) sz)) 1 6 (va_A (WC h k st) sz) := by
  refine vx_ofW (cc := prog_1_method_2_code) (maxL := 5) (ret := (some .int)) (by decide) rfl ?_
  intro p e s m args below meth c s₁ B hml hno hv
  obtain ⟨rfl, ⟨hsz, hP, hK, hN, hD0⟩, hX, hT, hZ⟩ := hv
  have hx := B.exec
  have hb := B.bytes
  have hr := B.returns
  have hts : ∀ w ∈ cw, w.before _ s = true := fun w h => atoms_spec (ws := (Cond.code y_C_line prog_1_method_2_code 5 (some .int) :: cw)) B.pre w (List.mem_cons_of_mem _ h)
  have hown : s.vm.findClass RC = some m.cls := findClass_of_methodNamed B.named
  have hlocks := B.notSynchronized
  have C0 : cxt p s m _ meth c prog_1_method_2_code 5 RC (some .int) := ⟨hx, hb, hr, hml, hown, hts, hlocks⟩
  subst hsz
  have hD := hD0.self (sz := s.heap.size)
  generalize hAe : va_A (WC h k st) s.heap.size = A at hD hZ ⊢
  have hA : ∀ q : Nat, s.heap.size ≤ q → A q := fun q h => by rw [← hAe]; exact Or.inr h
  have hS : va_S A s.heap s.heap [] := va_S.rf
  have hl := lv_entry ([.ref (h 0), .int p0, .int p1, .int p2]) (n := 5) (Nat.le_of_ble_eq_true rfl)
  rw [lg_entry_eq]
  generalize (lg_sl ([.ref (h 0), .int p0, .int p1, .int p2]) ++ List.replicate (5 - (lg_sl ([.ref (h 0), .int p0, .int p1, .int p2])).length) Slot.unset).toArray = ls at hl ⊢
  have hl : lv_has ls 5 [(0, .ref (h 0)), (1, .int p0), (2, .int p1), (3, .int p2)] := hl
  unfold w_C_line at hw
  refine lv_iload_n hx hb d_C_line_0 rfl (lv_at hl 1 rfl) ?_
  refine vp_callSi (va_Run.run (va_runS (As := [.int p0]) (rest := []) ⟨hx, hb, hml, hown, hts⟩ (t_C_isFactor l p0 hw) (va_cwS 1 hts (gS m_179 m_180 m_1 (cw_call m_181)) rfl rfl rfl (by decide +kernel) ⟨Nat.le_of_ble_eq_true rfl, Nat.le_of_ble_eq_true rfl⟩) ⟨pSt_bl, fun U hU hW => ⟨rfl, trivial⟩⟩ rfl rfl hl.1 rfl (lv_room (Nat.le_of_ble_eq_true rfl)) d_C_line_1 ⟨Nat.le_of_ble_eq_true rfl, Nat.le_of_ble_eq_true rfl⟩)) (fun r1 hw => ?_)
  refine lv_if_eq (tgt := 21) hx hb d_C_line_4 (by decide) (fun c2 => ?_) (fun c2 => ?_)
  · skip
    have hw := hw.1 c2
    obtain ⟨sa, hsa⟩ := hT (57, "a number of a line is not -6 .. 6") (by decide +kernel)
    exact vx_throwS (own := RC) (cls := eIA) (text := "a number of a line is not -6 .. 6") (names := eUp) (ik := 55) (is := 57) (ic := 59) (sa := sa) (A := A) hx hb hst hown (by decide +kernel) f_up (hts _ m_182) (hts _ m_9) hsa (fun w h => (x_IA w h).elim (hts w) (fun q => hX.use q)) o_IA hZ.1 hZ.2 hS (hl.1.trans hml.symm) d_C_line_21 d_C_line_24 d_C_line_25 d_C_line_27 d_C_line_30 (fun x hx => (hno x hx).elim) (Nat.le_of_ble_eq_true rfl) (Nat.le_of_ble_eq_true rfl) (Nat.le_of_ble_eq_true rfl) (Nat.le_of_ble_eq_true rfl) hlocks (fun t ha hz hk => ⟨(eIA, st), hw, ⟨rfl, hP.kept (fun k q hq => hk q.1 (hP k q hq).lt), hD⟩, xF hS hz hk⟩) hS.2.2 (Nat.le_of_ble_eq_true rfl) (Nat.le_of_ble_eq_true rfl)
  · skip
    have hw := hw.2 c2
    refine lv_iload_n hx hb d_C_line_7 rfl (lv_at hl 2 rfl) ?_
    refine vp_callSi (va_Run.run (va_runS (As := [.int p1]) (rest := []) ⟨hx, hb, hml, hown, hts⟩ (t_C_isFactor l p1 hw) (va_cwS 1 hts (gS m_179 m_180 m_1 (cw_call m_181)) rfl rfl rfl (by decide +kernel) ⟨Nat.le_of_ble_eq_true rfl, Nat.le_of_ble_eq_true rfl⟩) ⟨pSt_bl, fun U hU hW => ⟨rfl, trivial⟩⟩ rfl rfl hl.1 rfl (lv_room (Nat.le_of_ble_eq_true rfl)) d_C_line_8 ⟨Nat.le_of_ble_eq_true rfl, Nat.le_of_ble_eq_true rfl⟩)) (fun r3 hw => ?_)
    refine lv_if_eq (tgt := 21) hx hb d_C_line_11 (by decide) (fun c4 => ?_) (fun c4 => ?_)
    · skip
      have hw := hw.1 c4
      obtain ⟨sa, hsa⟩ := hT (57, "a number of a line is not -6 .. 6") (by decide +kernel)
      exact vx_throwS (own := RC) (cls := eIA) (text := "a number of a line is not -6 .. 6") (names := eUp) (ik := 55) (is := 57) (ic := 59) (sa := sa) (A := A) hx hb hst hown (by decide +kernel) f_up (hts _ m_182) (hts _ m_9) hsa (fun w h => (x_IA w h).elim (hts w) (fun q => hX.use q)) o_IA hZ.1 hZ.2 hS (hl.1.trans hml.symm) d_C_line_21 d_C_line_24 d_C_line_25 d_C_line_27 d_C_line_30 (fun x hx => (hno x hx).elim) (Nat.le_of_ble_eq_true rfl) (Nat.le_of_ble_eq_true rfl) (Nat.le_of_ble_eq_true rfl) (Nat.le_of_ble_eq_true rfl) hlocks (fun t ha hz hk => ⟨(eIA, st), hw, ⟨rfl, hP.kept (fun k q hq => hk q.1 (hP k q hq).lt), hD⟩, xF hS hz hk⟩) hS.2.2 (Nat.le_of_ble_eq_true rfl) (Nat.le_of_ble_eq_true rfl)
    · skip
      have hw := hw.2 c4
      refine lv_iload_n hx hb d_C_line_14 rfl (lv_at hl 3 rfl) ?_
      refine vp_callSi (va_Run.run (va_runS (As := [.int p2]) (rest := []) ⟨hx, hb, hml, hown, hts⟩ (t_C_isFactor l p2 hw) (va_cwS 1 hts (gS m_179 m_180 m_1 (cw_call m_181)) rfl rfl rfl (by decide +kernel) ⟨Nat.le_of_ble_eq_true rfl, Nat.le_of_ble_eq_true rfl⟩) ⟨pSt_bl, fun U hU hW => ⟨rfl, trivial⟩⟩ rfl rfl hl.1 rfl (lv_room (Nat.le_of_ble_eq_true rfl)) d_C_line_15 ⟨Nat.le_of_ble_eq_true rfl, Nat.le_of_ble_eq_true rfl⟩)) (fun r5 hw => ?_)
      refine lv_if_ne (tgt := 31) hx hb d_C_line_18 (by decide) (fun c6 => ?_) (fun c6 => ?_)
      · skip
        have hw := hw.1 c6
        refine lv_iload_n hx hb d_C_line_31 rfl (lv_at hl 1 rfl) ?_
        refine lv_if_ne (tgt := 49) hx hb d_C_line_32 (by decide) (fun c7 => ?_) (fun c7 => ?_)
        · skip
          have hw := hw.1 c7
          refine lv_aload_n hx hb d_C_line_49 rfl (lv_at hl 0 rfl) ?_
          refine va_get (D := (dC, dI)) (ci := 1) (v := .int (CS.lc st)) (C := RC) (T := TC) (N := 10) hx hb hts i_C hown hK hP 0 rfl rfl 3 (by decide) (hts _ m_108) (fun _ h9 => h9) rfl d_C_line_50 ?_
          refine lv_bipush (v := 6) hx hb d_C_line_53 (by decide) ?_
          refine lv_icmp_lt (tgt := 68) hx hb d_C_line_55 (by decide) (fun c8 => ?_) (fun c8 => ?_)
          · skip
            have hw := hw.1 c8
            refine lv_aload_n hx hb d_C_line_68 rfl (lv_at hl 0 rfl) ?_
            refine va_get (D := (dC, dI)) (ci := 1) (v := .int (CS.lc st)) (C := RC) (T := TC) (N := 10) hx hb hts i_C hown hK hP 0 rfl rfl 3 (by decide) (hts _ m_108) (fun _ h9 => h9) rfl d_C_line_69 ?_
            refine lv_topi (fun y9 ey9 => ?_)
            have hw := hw y9 ey9
            refine lv_istore (lv' := [(4, .int y9), (0, .ref (h 0)), (1, .int p0), (2, .int p1), (3, .int p2)]) hx hb d_C_line_72 hl (by decide) rfl (fun ls hl => ?_)
            refine lv_aload_n hx hb d_C_line_74 rfl (lv_at hl 1 rfl) ?_
            refine va_get (D := (dC, dI)) (ci := 1) (v := .ref (h 1)) (C := RC) (T := TC) (N := 10) hx hb hts i_C hown hK hP 0 rfl rfl 0 (by decide) (hts _ m_105) (fun _ h9 => h9) rfl d_C_line_75 ?_
            refine lv_iload hx hb d_C_line_78 (lv_at hl 0 rfl) ?_
            refine lv_iload_n hx hb d_C_line_80 rfl (lv_at hl 2 rfl) ?_
            obtain ⟨h10, hw⟩ := hw
            refine va_iast hx hb hK hP hD hS 1 0 rfl rfl h10 d_C_line_81 (fun H locs hP hD hS => ?_)
            have hP : va_P (dC, dI) vwCl (WC h k (CS.set_a st (upd (CS.a st) y9.toNatClampNeg p0))) H := hP
            have hD : va_D A (WC h k (CS.set_a st (upd (CS.a st) y9.toNatClampNeg p0))) := hD
            refine lv_aload_n hx hb d_C_line_82 rfl (lv_at hl 1 rfl) ?_
            refine va_get (D := (dC, dI)) (ci := 1) (v := .ref (h 2)) (C := RC) (T := TC) (N := 10) hx hb hts i_C hown hK hP 0 rfl rfl 1 (by decide) (hts _ m_106) (fun _ h9 => h9) rfl d_C_line_83 ?_
            refine lv_iload hx hb d_C_line_86 (lv_at hl 0 rfl) ?_
            refine lv_iload_n hx hb d_C_line_88 rfl (lv_at hl 3 rfl) ?_
            refine va_iast hx hb hK hP hD hS 2 1 rfl rfl h10 d_C_line_89 (fun H locs hP hD hS => ?_)
            have hP : va_P (dC, dI) vwCl (WC h k (CS.set_b (CS.set_a st (upd (CS.a st) y9.toNatClampNeg p0)) (upd (CS.b st) y9.toNatClampNeg p1))) H := hP
            have hD : va_D A (WC h k (CS.set_b (CS.set_a st (upd (CS.a st) y9.toNatClampNeg p0)) (upd (CS.b st) y9.toNatClampNeg p1))) := hD
            refine lv_aload_n hx hb d_C_line_90 rfl (lv_at hl 1 rfl) ?_
            refine va_get (D := (dC, dI)) (ci := 1) (v := .ref (h 3)) (C := RC) (T := TC) (N := 10) hx hb hts i_C hown hK hP 0 rfl rfl 2 (by decide) (hts _ m_107) (fun _ h9 => h9) rfl d_C_line_91 ?_
            refine lv_iload hx hb d_C_line_94 (lv_at hl 0 rfl) ?_
            refine lv_iload_n hx hb d_C_line_96 rfl (lv_at hl 4 rfl) ?_
            refine va_iast hx hb hK hP hD hS 3 2 rfl rfl h10 d_C_line_97 (fun H locs hP hD hS => ?_)
            have hP : va_P (dC, dI) vwCl (WC h k (CS.set_c (CS.set_b (CS.set_a st (upd (CS.a st) y9.toNatClampNeg p0)) (upd (CS.b st) y9.toNatClampNeg p1)) (upd (CS.c st) y9.toNatClampNeg p2))) H := hP
            have hD : va_D A (WC h k (CS.set_c (CS.set_b (CS.set_a st (upd (CS.a st) y9.toNatClampNeg p0)) (upd (CS.b st) y9.toNatClampNeg p1)) (upd (CS.c st) y9.toNatClampNeg p2))) := hD
            refine lv_aload_n hx hb d_C_line_98 rfl (lv_at hl 1 rfl) ?_
            refine lv_iload hx hb d_C_line_99 (lv_at hl 0 rfl) ?_
            refine lv_iconst (v := 1) hx hb d_C_line_101 (by decide) ?_
            refine lv_iadd hx hb d_C_line_102 ?_
            refine va_put (D := (dC, dI)) (ci := 1) (v := .int (y9 + 1)) (ty := .int) (C := RC) (T := TC) (N := 10) hx hb hts i_C tyC tyC_ok nmC hown hK hP hD hS 0 rfl rfl 3 (by decide) (hts _ m_108) (fun _ h9 => h9) rfl (by decide +kernel) rfl rfl (Nat.le_of_ble_eq_true rfl) d_C_line_103 (fun H locs hP hD hS => ?_)
            have hP : va_P (dC, dI) vwCl (WC h k (CS.set_lc (CS.set_c (CS.set_b (CS.set_a st (upd (CS.a st) y9.toNatClampNeg p0)) (upd (CS.b st) y9.toNatClampNeg p1)) (upd (CS.c st) y9.toNatClampNeg p2)) (y9 + 1))) H := hP
            have hD : va_D A (WC h k (CS.set_lc (CS.set_c (CS.set_b (CS.set_a st (upd (CS.a st) y9.toNatClampNeg p0)) (upd (CS.b st) y9.toNatClampNeg p1)) (upd (CS.c st) y9.toNatClampNeg p2)) (y9 + 1))) := hD
            refine lv_aload_n hx hb d_C_line_106 rfl (lv_at hl 1 rfl) ?_
            have hFc := va_freeA hD hS hA
            refine va_callv (va_runV (As := []) (rest := []) ⟨hx, hb, hml, hown, hts⟩ (t_C_rebuild l dC dI h k _ (CS.set_lc (CS.set_c (CS.set_b (CS.set_a st (upd (CS.a st) y9.toNatClampNeg p0)) (upd (CS.b st) y9.toNatClampNeg p1)) (upd (CS.c st) y9.toNatClampNeg p2)) (y9 + 1))  hw) (cwV 0 hts (gV m_41 m_43 s_0 m_1 (cw_call m_44)) rfl rfl rfl (by decide +kernel) ⟨Nat.le_of_ble_eq_true rfl, Nat.le_of_ble_eq_true rfl⟩) ⟨pRw_bl, va_recv hK hP (ci := 1) (q0 := 0) rfl rfl, fun U hU hW => ⟨rfl, pRw_at hP hK hN hD hU hW⟩⟩ rfl rfl hl.1 rfl (lv_room (Nat.le_of_ble_eq_true rfl)) d_C_line_107 ⟨Nat.le_of_ble_eq_true rfl, Nat.le_of_ble_eq_true rfl⟩) hS (fun q _ h => hFc q h) hFc (fun u11 t H1 locs ht hvm hw hB hz1 hk1 hS => ?_)
            obtain ⟨hP1, hD1⟩ := hB
            rw [ht] at hP1
            have hP := hP1
            have hD := hD1.weaken (fun _ q _ h => hFc q.1 h)
            generalize H1 = H at hP hS ⊢
            have hP : va_P (dC, dI) vwCl (WC h k u11) H := hP
            have hD : va_D A (WC h k u11) := hD
            refine lv_iload hx hb d_C_line_110 (lv_at hl 0 rfl) ?_
            refine vx_ret ?_
            refine W.widen (k := 1) (n := 6) (Nat.le_of_ble_eq_true rfl) (Nat.le_of_ble_eq_true rfl) ?_
            exact W.iret (v := y9) hx hb hr (fun t ht hW => ⟨⟨y9, u11, rfl, hw, by rw [ht]; exact hP, hD⟩, hS.F ht⟩) hS.2.2 d_C_line_112
          · skip
            have hw := hw.2 c8
            obtain ⟨sa, hsa⟩ := hT (66, "there are 6 lines") (by decide +kernel)
            exact vx_throwS (own := RC) (cls := eIS) (text := "there are 6 lines") (names := eUp) (ik := 64) (is := 66) (ic := 68) (sa := sa) (A := A) hx hb hst hown (by decide +kernel) f_up (hts _ m_251) (hts _ m_10) hsa (fun w h => (x_IS w h).elim (hts w) (fun q => hX.use q)) o_IS hZ.1 hZ.2 hS (hl.1.trans hml.symm) d_C_line_58 d_C_line_61 d_C_line_62 d_C_line_64 d_C_line_67 (fun x hx => (hno x hx).elim) (Nat.le_of_ble_eq_true rfl) (Nat.le_of_ble_eq_true rfl) (Nat.le_of_ble_eq_true rfl) (Nat.le_of_ble_eq_true rfl) hlocks (fun t ha hz hk => ⟨(eIS, st), hw, ⟨rfl, hP.kept (fun k q hq => hk q.1 (hP k q hq).lt), hD⟩, xF hS hz hk⟩) hS.2.2 (Nat.le_of_ble_eq_true rfl) (Nat.le_of_ble_eq_true rfl)
        · skip
          have hw := hw.2 c7
          refine lv_iload_n hx hb d_C_line_35 rfl (lv_at hl 2 rfl) ?_
          refine lv_if_ne (tgt := 49) hx hb d_C_line_36 (by decide) (fun c12 => ?_) (fun c12 => ?_)
          · skip
            have hw := hw.1 c12
            refine lv_aload_n hx hb d_C_line_49 rfl (lv_at hl 0 rfl) ?_
            refine va_get (D := (dC, dI)) (ci := 1) (v := .int (CS.lc st)) (C := RC) (T := TC) (N := 10) hx hb hts i_C hown hK hP 0 rfl rfl 3 (by decide) (hts _ m_108) (fun _ h9 => h9) rfl d_C_line_50 ?_
            refine lv_bipush (v := 6) hx hb d_C_line_53 (by decide) ?_
            refine lv_icmp_lt (tgt := 68) hx hb d_C_line_55 (by decide) (fun c13 => ?_) (fun c13 => ?_)
            · skip
              have hw := hw.1 c13
              refine lv_aload_n hx hb d_C_line_68 rfl (lv_at hl 0 rfl) ?_
              refine va_get (D := (dC, dI)) (ci := 1) (v := .int (CS.lc st)) (C := RC) (T := TC) (N := 10) hx hb hts i_C hown hK hP 0 rfl rfl 3 (by decide) (hts _ m_108) (fun _ h9 => h9) rfl d_C_line_69 ?_
              refine lv_topi (fun y14 ey14 => ?_)
              have hw := hw y14 ey14
              refine lv_istore (lv' := [(4, .int y14), (0, .ref (h 0)), (1, .int p0), (2, .int p1), (3, .int p2)]) hx hb d_C_line_72 hl (by decide) rfl (fun ls hl => ?_)
              refine lv_aload_n hx hb d_C_line_74 rfl (lv_at hl 1 rfl) ?_
              refine va_get (D := (dC, dI)) (ci := 1) (v := .ref (h 1)) (C := RC) (T := TC) (N := 10) hx hb hts i_C hown hK hP 0 rfl rfl 0 (by decide) (hts _ m_105) (fun _ h9 => h9) rfl d_C_line_75 ?_
              refine lv_iload hx hb d_C_line_78 (lv_at hl 0 rfl) ?_
              refine lv_iload_n hx hb d_C_line_80 rfl (lv_at hl 2 rfl) ?_
              obtain ⟨h15, hw⟩ := hw
              refine va_iast hx hb hK hP hD hS 1 0 rfl rfl h15 d_C_line_81 (fun H locs hP hD hS => ?_)
              have hP : va_P (dC, dI) vwCl (WC h k (CS.set_a st (upd (CS.a st) y14.toNatClampNeg p0))) H := hP
              have hD : va_D A (WC h k (CS.set_a st (upd (CS.a st) y14.toNatClampNeg p0))) := hD
              refine lv_aload_n hx hb d_C_line_82 rfl (lv_at hl 1 rfl) ?_
              refine va_get (D := (dC, dI)) (ci := 1) (v := .ref (h 2)) (C := RC) (T := TC) (N := 10) hx hb hts i_C hown hK hP 0 rfl rfl 1 (by decide) (hts _ m_106) (fun _ h9 => h9) rfl d_C_line_83 ?_
              refine lv_iload hx hb d_C_line_86 (lv_at hl 0 rfl) ?_
              refine lv_iload_n hx hb d_C_line_88 rfl (lv_at hl 3 rfl) ?_
              refine va_iast hx hb hK hP hD hS 2 1 rfl rfl h15 d_C_line_89 (fun H locs hP hD hS => ?_)
              have hP : va_P (dC, dI) vwCl (WC h k (CS.set_b (CS.set_a st (upd (CS.a st) y14.toNatClampNeg p0)) (upd (CS.b st) y14.toNatClampNeg p1))) H := hP
              have hD : va_D A (WC h k (CS.set_b (CS.set_a st (upd (CS.a st) y14.toNatClampNeg p0)) (upd (CS.b st) y14.toNatClampNeg p1))) := hD
              refine lv_aload_n hx hb d_C_line_90 rfl (lv_at hl 1 rfl) ?_
              refine va_get (D := (dC, dI)) (ci := 1) (v := .ref (h 3)) (C := RC) (T := TC) (N := 10) hx hb hts i_C hown hK hP 0 rfl rfl 2 (by decide) (hts _ m_107) (fun _ h9 => h9) rfl d_C_line_91 ?_
              refine lv_iload hx hb d_C_line_94 (lv_at hl 0 rfl) ?_
              refine lv_iload_n hx hb d_C_line_96 rfl (lv_at hl 4 rfl) ?_
              refine va_iast hx hb hK hP hD hS 3 2 rfl rfl h15 d_C_line_97 (fun H locs hP hD hS => ?_)
              have hP : va_P (dC, dI) vwCl (WC h k (CS.set_c (CS.set_b (CS.set_a st (upd (CS.a st) y14.toNatClampNeg p0)) (upd (CS.b st) y14.toNatClampNeg p1)) (upd (CS.c st) y14.toNatClampNeg p2))) H := hP
              have hD : va_D A (WC h k (CS.set_c (CS.set_b (CS.set_a st (upd (CS.a st) y14.toNatClampNeg p0)) (upd (CS.b st) y14.toNatClampNeg p1)) (upd (CS.c st) y14.toNatClampNeg p2))) := hD
              refine lv_aload_n hx hb d_C_line_98 rfl (lv_at hl 1 rfl) ?_
              refine lv_iload hx hb d_C_line_99 (lv_at hl 0 rfl) ?_
              refine lv_iconst (v := 1) hx hb d_C_line_101 (by decide) ?_
              refine lv_iadd hx hb d_C_line_102 ?_
              refine va_put (D := (dC, dI)) (ci := 1) (v := .int (y14 + 1)) (ty := .int) (C := RC) (T := TC) (N := 10) hx hb hts i_C tyC tyC_ok nmC hown hK hP hD hS 0 rfl rfl 3 (by decide) (hts _ m_108) (fun _ h9 => h9) rfl (by decide +kernel) rfl rfl (Nat.le_of_ble_eq_true rfl) d_C_line_103 (fun H locs hP hD hS => ?_)
              have hP : va_P (dC, dI) vwCl (WC h k (CS.set_lc (CS.set_c (CS.set_b (CS.set_a st (upd (CS.a st) y14.toNatClampNeg p0)) (upd (CS.b st) y14.toNatClampNeg p1)) (upd (CS.c st) y14.toNatClampNeg p2)) (y14 + 1))) H := hP
              have hD : va_D A (WC h k (CS.set_lc (CS.set_c (CS.set_b (CS.set_a st (upd (CS.a st) y14.toNatClampNeg p0)) (upd (CS.b st) y14.toNatClampNeg p1)) (upd (CS.c st) y14.toNatClampNeg p2)) (y14 + 1))) := hD
              refine lv_aload_n hx hb d_C_line_106 rfl (lv_at hl 1 rfl) ?_
              have hFc := va_freeA hD hS hA
              refine va_callv (va_runV (As := []) (rest := []) ⟨hx, hb, hml, hown, hts⟩ (t_C_rebuild l dC dI h k _ (CS.set_lc (CS.set_c (CS.set_b (CS.set_a st (upd (CS.a st) y14.toNatClampNeg p0)) (upd (CS.b st) y14.toNatClampNeg p1)) (upd (CS.c st) y14.toNatClampNeg p2)) (y14 + 1))  hw) (cwV 0 hts (gV m_41 m_43 s_0 m_1 (cw_call m_44)) rfl rfl rfl (by decide +kernel) ⟨Nat.le_of_ble_eq_true rfl, Nat.le_of_ble_eq_true rfl⟩) ⟨pRw_bl, va_recv hK hP (ci := 1) (q0 := 0) rfl rfl, fun U hU hW => ⟨rfl, pRw_at hP hK hN hD hU hW⟩⟩ rfl rfl hl.1 rfl (lv_room (Nat.le_of_ble_eq_true rfl)) d_C_line_107 ⟨Nat.le_of_ble_eq_true rfl, Nat.le_of_ble_eq_true rfl⟩) hS (fun q _ h => hFc q h) hFc (fun u16 t H1 locs ht hvm hw hB hz1 hk1 hS => ?_)
              obtain ⟨hP1, hD1⟩ := hB
              rw [ht] at hP1
              have hP := hP1
              have hD := hD1.weaken (fun _ q _ h => hFc q.1 h)
              generalize H1 = H at hP hS ⊢
              have hP : va_P (dC, dI) vwCl (WC h k u16) H := hP
              have hD : va_D A (WC h k u16) := hD
              refine lv_iload hx hb d_C_line_110 (lv_at hl 0 rfl) ?_
              refine vx_ret ?_
              refine W.widen (k := 1) (n := 6) (Nat.le_of_ble_eq_true rfl) (Nat.le_of_ble_eq_true rfl) ?_
              exact W.iret (v := y14) hx hb hr (fun t ht hW => ⟨⟨y14, u16, rfl, hw, by rw [ht]; exact hP, hD⟩, hS.F ht⟩) hS.2.2 d_C_line_112
            · skip
              have hw := hw.2 c13
              obtain ⟨sa, hsa⟩ := hT (66, "there are 6 lines") (by decide +kernel)
              exact vx_throwS (own := RC) (cls := eIS) (text := "there are 6 lines") (names := eUp) (ik := 64) (is := 66) (ic := 68) (sa := sa) (A := A) hx hb hst hown (by decide +kernel) f_up (hts _ m_251) (hts _ m_10) hsa (fun w h => (x_IS w h).elim (hts w) (fun q => hX.use q)) o_IS hZ.1 hZ.2 hS (hl.1.trans hml.symm) d_C_line_58 d_C_line_61 d_C_line_62 d_C_line_64 d_C_line_67 (fun x hx => (hno x hx).elim) (Nat.le_of_ble_eq_true rfl) (Nat.le_of_ble_eq_true rfl) (Nat.le_of_ble_eq_true rfl) (Nat.le_of_ble_eq_true rfl) hlocks (fun t ha hz hk => ⟨(eIS, st), hw, ⟨rfl, hP.kept (fun k q hq => hk q.1 (hP k q hq).lt), hD⟩, xF hS hz hk⟩) hS.2.2 (Nat.le_of_ble_eq_true rfl) (Nat.le_of_ble_eq_true rfl)
          · skip
            have hw := hw.2 c12
            obtain ⟨sa, hsa⟩ := hT (62, "a and b are both 0") (by decide +kernel)
            exact vx_throwS (own := RC) (cls := eIA) (text := "a and b are both 0") (names := eUp) (ik := 55) (is := 62) (ic := 59) (sa := sa) (A := A) hx hb hst hown (by decide +kernel) f_up (hts _ m_182) (hts _ m_9) hsa (fun w h => (x_IA w h).elim (hts w) (fun q => hX.use q)) o_IA hZ.1 hZ.2 hS (hl.1.trans hml.symm) d_C_line_39 d_C_line_42 d_C_line_43 d_C_line_45 d_C_line_48 (fun x hx => (hno x hx).elim) (Nat.le_of_ble_eq_true rfl) (Nat.le_of_ble_eq_true rfl) (Nat.le_of_ble_eq_true rfl) (Nat.le_of_ble_eq_true rfl) hlocks (fun t ha hz hk => ⟨(eIA, st), hw, ⟨rfl, hP.kept (fun k q hq => hk q.1 (hP k q hq).lt), hD⟩, xF hS hz hk⟩) hS.2.2 (Nat.le_of_ble_eq_true rfl) (Nat.le_of_ble_eq_true rfl)
      · skip
        have hw := hw.2 c6
        obtain ⟨sa, hsa⟩ := hT (57, "a number of a line is not -6 .. 6") (by decide +kernel)
        exact vx_throwS (own := RC) (cls := eIA) (text := "a number of a line is not -6 .. 6") (names := eUp) (ik := 55) (is := 57) (ic := 59) (sa := sa) (A := A) hx hb hst hown (by decide +kernel) f_up (hts _ m_182) (hts _ m_9) hsa (fun w h => (x_IA w h).elim (hts w) (fun q => hX.use q)) o_IA hZ.1 hZ.2 hS (hl.1.trans hml.symm) d_C_line_21 d_C_line_24 d_C_line_25 d_C_line_27 d_C_line_30 (fun x hx => (hno x hx).elim) (Nat.le_of_ble_eq_true rfl) (Nat.le_of_ble_eq_true rfl) (Nat.le_of_ble_eq_true rfl) (Nat.le_of_ble_eq_true rfl) hlocks (fun t ha hz hk => ⟨(eIA, st), hw, ⟨rfl, hP.kept (fun k q hq => hk q.1 (hP k q hq).lt), hD⟩, xF hS hz hk⟩) hS.2.2 (Nat.le_of_ble_eq_true rfl) (Nat.le_of_ble_eq_true rfl)
def w_C_drop_22 (post : CS → Prop) (px : String → CS → Prop) : Nat → CS → Int32 → Prop
  | 0, _, _ => False
  | n + 1, st, v2 => ((CS.lc st) ≤ v2 → (w_C_rebuild (CS.set_lc st ((CS.lc st) - 1)) (fun u6 => (post u6)) )) ∧ (¬ (CS.lc st) ≤ v2 → (vp_in v2 6 ∧ (vp_in (v2 - 1) 6 ∧ (w_C_drop_22 post px n (CS.set_c (CS.set_b (CS.set_a st (upd (CS.a st) (v2 - 1).toNatClampNeg ((CS.a st) v2.toNatClampNeg))) (upd (CS.b st) (v2 - 1).toNatClampNeg ((CS.b st) v2.toNatClampNeg))) (upd (CS.c st) (v2 - 1).toNatClampNeg ((CS.c st) v2.toNatClampNeg))) (v2 + 1)))))
set_option maxHeartbeats 4000000 in
set_option maxRecDepth 100000 in
theorem k_C_drop_22 {p : Program} {l : Launch} {e : Env} {s : State} {m : MethodId} {args : Array Value} {below : List Frame} {meth : Method} {c : Code} {dC : Nat → ClassId} {dI : Nat → Nat → Nat} {h : Nat → Nat} {k : Nat → ClassId} {A : Nat → Prop} {post : CS → Prop} {px : String → CS → Prop} (C0 : cxt p s m args meth c prog_1_method_3_code 3 RC none) (hK : va_K (dC, dI) vwCl (YC k) s) (hN : va_Nw nestW s) (hA : ∀ q, s.heap.size ≤ q → A q) : ∀ (n : Nat), ∀ (st : CS) (v2 : Int32) (H : Heap) (locs : List Loc), va_P (dC, dI) vwCl (WC h k st) H → va_D A (WC h k st) → va_S A s.heap H locs → ∀ ls, lv_has ls 3 [(0, .ref (h 0)), (2, .int v2)] → w_C_drop_22 post px n st v2 → W p l e ({ frames := 6, cells := 1, slots := 6, locals := 152 } : Room) s m args below meth c H locs 0 0 (vx_MQ below (va_Qv post (fun u t => va_P (dC, dI) vwCl (WC h k u) t.heap ∧ va_D A (WC h k u)) A) (vx_X (fun z : String × CS => px z.1 z.2) (fun E z t => z.1 = E ∧ va_P (dC, dI) vwCl (WC h k z.2) t.heap ∧ va_D A (WC h k z.2)) A) args s 1 6 A) (F0 m 22 ls []) := by
  obtain ⟨hx, hb, hr, hml, hown, hts, hlocks⟩ := id C0
  intro n
  induction n with
  | zero =>
    intro st v2 H locs hP hD hS ls hl hw
    exact False.elim hw
  | succ n ih =>
    intro st v2 H locs hP hD hS ls hl hw
    rw [w_C_drop_22] at hw
    refine lv_iload_n hx hb d_C_drop_22 rfl (lv_at hl 1 rfl) ?_
    refine lv_aload_n hx hb d_C_drop_23 rfl (lv_at hl 0 rfl) ?_
    refine va_get (D := (dC, dI)) (ci := 1) (v := .int (CS.lc st)) (C := RC) (T := TC) (N := 10) hx hb hts i_C hown hK hP 0 rfl rfl 3 (by decide) (hts _ m_108) (fun _ h9 => h9) rfl d_C_drop_24 ?_
    refine lv_icmp_ge (tgt := 78) hx hb d_C_drop_27 (by decide) (fun c5 => ?_) (fun c5 => ?_)
    · skip
      have hw := hw.1 c5
      refine lv_aload_n hx hb d_C_drop_78 rfl (lv_at hl 0 rfl) ?_
      refine lv_dup hx hb d_C_drop_79 rfl ?_
      refine va_get (D := (dC, dI)) (ci := 1) (v := .int (CS.lc st)) (C := RC) (T := TC) (N := 10) hx hb hts i_C hown hK hP 0 rfl rfl 3 (by decide) (hts _ m_108) (fun _ h9 => h9) rfl d_C_drop_80 ?_
      refine lv_iconst (v := 1) hx hb d_C_drop_83 (by decide) ?_
      refine lv_isub hx hb d_C_drop_84 ?_
      refine va_put (D := (dC, dI)) (ci := 1) (v := .int ((CS.lc st) - 1)) (ty := .int) (C := RC) (T := TC) (N := 10) hx hb hts i_C tyC tyC_ok nmC hown hK hP hD hS 0 rfl rfl 3 (by decide) (hts _ m_108) (fun _ h9 => h9) rfl (by decide +kernel) rfl rfl (Nat.le_of_ble_eq_true rfl) d_C_drop_85 (fun H locs hP hD hS => ?_)
      have hP : va_P (dC, dI) vwCl (WC h k (CS.set_lc st ((CS.lc st) - 1))) H := hP
      have hD : va_D A (WC h k (CS.set_lc st ((CS.lc st) - 1))) := hD
      refine lv_aload_n hx hb d_C_drop_88 rfl (lv_at hl 0 rfl) ?_
      have hFc := va_freeA hD hS hA
      refine va_callv (va_runV (As := []) (rest := []) ⟨hx, hb, hml, hown, hts⟩ (t_C_rebuild l dC dI h k _ (CS.set_lc st ((CS.lc st) - 1))  hw) (cwV 0 hts (gV m_41 m_43 s_0 m_1 (cw_call m_44)) rfl rfl rfl (by decide +kernel) ⟨Nat.le_of_ble_eq_true rfl, Nat.le_of_ble_eq_true rfl⟩) ⟨pRw_bl, va_recv hK hP (ci := 1) (q0 := 0) rfl rfl, fun U hU hW => ⟨rfl, pRw_at hP hK hN hD hU hW⟩⟩ rfl rfl hl.1 rfl (lv_room (Nat.le_of_ble_eq_true rfl)) d_C_drop_89 ⟨Nat.le_of_ble_eq_true rfl, Nat.le_of_ble_eq_true rfl⟩) hS (fun q _ h => hFc q h) hFc (fun u6 t H1 locs ht hvm hw hB hz1 hk1 hS => ?_)
      obtain ⟨hP1, hD1⟩ := hB
      rw [ht] at hP1
      have hP := hP1
      have hD := hD1.weaken (fun _ q _ h => hFc q.1 h)
      generalize H1 = H at hP hS ⊢
      have hP : va_P (dC, dI) vwCl (WC h k u6) H := hP
      have hD : va_D A (WC h k u6) := hD
      refine vx_ret ?_
      refine W.widen (k := 1) (n := 6) (Nat.le_of_ble_eq_true rfl) (Nat.le_of_ble_eq_true rfl) ?_
      exact W.vret hx hb hr (fun t ht hW => ⟨⟨u6, rfl, hw, by rw [ht]; exact hP, hD⟩, hS.F ht⟩) hS.2.2 d_C_drop_92
    · skip
      have hw := hw.2 c5
      refine lv_aload_n hx hb d_C_drop_30 rfl (lv_at hl 0 rfl) ?_
      refine va_get (D := (dC, dI)) (ci := 1) (v := .ref (h 1)) (C := RC) (T := TC) (N := 10) hx hb hts i_C hown hK hP 0 rfl rfl 0 (by decide) (hts _ m_105) (fun _ h9 => h9) rfl d_C_drop_31 ?_
      refine lv_iload_n hx hb d_C_drop_34 rfl (lv_at hl 1 rfl) ?_
      refine lv_iconst (v := 1) hx hb d_C_drop_35 (by decide) ?_
      refine lv_isub hx hb d_C_drop_36 ?_
      refine lv_aload_n hx hb d_C_drop_37 rfl (lv_at hl 0 rfl) ?_
      refine va_get (D := (dC, dI)) (ci := 1) (v := .ref (h 1)) (C := RC) (T := TC) (N := 10) hx hb hts i_C hown hK hP 0 rfl rfl 0 (by decide) (hts _ m_105) (fun _ h9 => h9) rfl d_C_drop_38 ?_
      refine lv_iload_n hx hb d_C_drop_41 rfl (lv_at hl 1 rfl) ?_
      obtain ⟨h7, hw⟩ := hw
      refine va_iald hx hb hK hP 1 0 rfl rfl h7 d_C_drop_42 ?_
      obtain ⟨h8, hw⟩ := hw
      refine va_iast hx hb hK hP hD hS 1 0 rfl rfl h8 d_C_drop_43 (fun H locs hP hD hS => ?_)
      have hP : va_P (dC, dI) vwCl (WC h k (CS.set_a st (upd (CS.a st) (v2 - 1).toNatClampNeg ((CS.a st) v2.toNatClampNeg)))) H := hP
      have hD : va_D A (WC h k (CS.set_a st (upd (CS.a st) (v2 - 1).toNatClampNeg ((CS.a st) v2.toNatClampNeg)))) := hD
      refine lv_aload_n hx hb d_C_drop_44 rfl (lv_at hl 0 rfl) ?_
      refine va_get (D := (dC, dI)) (ci := 1) (v := .ref (h 2)) (C := RC) (T := TC) (N := 10) hx hb hts i_C hown hK hP 0 rfl rfl 1 (by decide) (hts _ m_106) (fun _ h9 => h9) rfl d_C_drop_45 ?_
      refine lv_iload_n hx hb d_C_drop_48 rfl (lv_at hl 1 rfl) ?_
      refine lv_iconst (v := 1) hx hb d_C_drop_49 (by decide) ?_
      refine lv_isub hx hb d_C_drop_50 ?_
      refine lv_aload_n hx hb d_C_drop_51 rfl (lv_at hl 0 rfl) ?_
      refine va_get (D := (dC, dI)) (ci := 1) (v := .ref (h 2)) (C := RC) (T := TC) (N := 10) hx hb hts i_C hown hK hP 0 rfl rfl 1 (by decide) (hts _ m_106) (fun _ h9 => h9) rfl d_C_drop_52 ?_
      refine lv_iload_n hx hb d_C_drop_55 rfl (lv_at hl 1 rfl) ?_
      refine va_iald hx hb hK hP 2 1 rfl rfl h7 d_C_drop_56 ?_
      refine va_iast hx hb hK hP hD hS 2 1 rfl rfl h8 d_C_drop_57 (fun H locs hP hD hS => ?_)
      have hP : va_P (dC, dI) vwCl (WC h k (CS.set_b (CS.set_a st (upd (CS.a st) (v2 - 1).toNatClampNeg ((CS.a st) v2.toNatClampNeg))) (upd (CS.b st) (v2 - 1).toNatClampNeg ((CS.b st) v2.toNatClampNeg)))) H := hP
      have hD : va_D A (WC h k (CS.set_b (CS.set_a st (upd (CS.a st) (v2 - 1).toNatClampNeg ((CS.a st) v2.toNatClampNeg))) (upd (CS.b st) (v2 - 1).toNatClampNeg ((CS.b st) v2.toNatClampNeg)))) := hD
      refine lv_aload_n hx hb d_C_drop_58 rfl (lv_at hl 0 rfl) ?_
      refine va_get (D := (dC, dI)) (ci := 1) (v := .ref (h 3)) (C := RC) (T := TC) (N := 10) hx hb hts i_C hown hK hP 0 rfl rfl 2 (by decide) (hts _ m_107) (fun _ h9 => h9) rfl d_C_drop_59 ?_
      refine lv_iload_n hx hb d_C_drop_62 rfl (lv_at hl 1 rfl) ?_
      refine lv_iconst (v := 1) hx hb d_C_drop_63 (by decide) ?_
      refine lv_isub hx hb d_C_drop_64 ?_
      refine lv_aload_n hx hb d_C_drop_65 rfl (lv_at hl 0 rfl) ?_
      refine va_get (D := (dC, dI)) (ci := 1) (v := .ref (h 3)) (C := RC) (T := TC) (N := 10) hx hb hts i_C hown hK hP 0 rfl rfl 2 (by decide) (hts _ m_107) (fun _ h9 => h9) rfl d_C_drop_66 ?_
      refine lv_iload_n hx hb d_C_drop_69 rfl (lv_at hl 1 rfl) ?_
      refine va_iald hx hb hK hP 3 2 rfl rfl h7 d_C_drop_70 ?_
      refine va_iast hx hb hK hP hD hS 3 2 rfl rfl h8 d_C_drop_71 (fun H locs hP hD hS => ?_)
      have hP : va_P (dC, dI) vwCl (WC h k (CS.set_c (CS.set_b (CS.set_a st (upd (CS.a st) (v2 - 1).toNatClampNeg ((CS.a st) v2.toNatClampNeg))) (upd (CS.b st) (v2 - 1).toNatClampNeg ((CS.b st) v2.toNatClampNeg))) (upd (CS.c st) (v2 - 1).toNatClampNeg ((CS.c st) v2.toNatClampNeg)))) H := hP
      have hD : va_D A (WC h k (CS.set_c (CS.set_b (CS.set_a st (upd (CS.a st) (v2 - 1).toNatClampNeg ((CS.a st) v2.toNatClampNeg))) (upd (CS.b st) (v2 - 1).toNatClampNeg ((CS.b st) v2.toNatClampNeg))) (upd (CS.c st) (v2 - 1).toNatClampNeg ((CS.c st) v2.toNatClampNeg)))) := hD
      refine lv_iinc (v := (v2 + 1)) (lv' := [(2, .int (v2 + 1)), (0, .ref (h 0))]) hx hb d_C_drop_72 hl (k := 1) rfl rfl (by decide) rfl (fun ls hl => ?_)
      refine lv_goto (tgt := 22) hx hb d_C_drop_75 (by decide) ?_
      exact ih (CS.set_c (CS.set_b (CS.set_a st (upd (CS.a st) (v2 - 1).toNatClampNeg ((CS.a st) v2.toNatClampNeg))) (upd (CS.b st) (v2 - 1).toNatClampNeg ((CS.b st) v2.toNatClampNeg))) (upd (CS.c st) (v2 - 1).toNatClampNeg ((CS.c st) v2.toNatClampNeg))) (v2 + 1) _ _ hP hD hS ls (lv_sub hl [1, 0] rfl) hw
def w_C_drop (st : CS) (post : CS → Prop) (px : String → CS → Prop) (p0 : Int32) : Prop := w_C_isLine st (fun r1 => ((¬ r1 = 0 → (∀ y3 : Int32, y3 = (p0 + 1) → (∃ z, w_C_drop_22 post px z st y3))) ∧ (r1 = 0 → (px eIO st)))) p0
set_option maxHeartbeats 4000000 in
set_option maxRecDepth 100000 in
theorem t_C_drop (l : Launch) (hst : l.stackTraces = false) (dC : Nat → ClassId) (dI : Nat → Nat → Nat) (h : Nat → Nat) (k : Nat → ClassId) (sz : Nat) (st : CS) (p0 : Int32) {post : CS → Prop} {px : String → CS → Prop} (hw : w_C_drop st post px p0) : vx_Met l y_C_drop (Cond.code y_C_drop prog_1_method_3_code 3 none :: cw) ({ frames := 6, cells := 1, slots := 6, locals := 152 } : Room) (va_Pc [.ref (h 0), .int p0] (pRx (dC, dI) (WC h k st) (YC k) sz)) (va_Qv post (fun u t => va_P (dC, dI) vwCl (WC h k u) t.heap ∧ va_D (va_A (WC h k st) sz) (WC h k u)) (va_A (WC h k st) sz)) (vx_X (fun z : String × CS => px z.1 z.2) (fun E z t => z.1 = E ∧ va_P (dC, dI) vwCl (WC h k z.2) t.heap ∧ va_D (va_A (WC h k st) sz) (WC h k z.2)) (va_A (WC h k st) sz)) 1 6 (va_A (WC h k st) sz) := by
  refine vx_ofW (cc := prog_1_method_3_code) (maxL := 3) (ret := none) (by decide) rfl ?_
  intro p e s m args below meth c s₁ B hml hno hv
  obtain ⟨rfl, ⟨hsz, hP, hK, hN, hD0⟩, hX, hT, hZ⟩ := hv
  have hx := B.exec
  have hb := B.bytes
  have hr := B.returns
  have hts : ∀ w ∈ cw, w.before _ s = true := fun w h => atoms_spec (ws := (Cond.code y_C_drop prog_1_method_3_code 3 none :: cw)) B.pre w (List.mem_cons_of_mem _ h)
  have hown : s.vm.findClass RC = some m.cls := findClass_of_methodNamed B.named
  have hlocks := B.notSynchronized
  have C0 : cxt p s m _ meth c prog_1_method_3_code 3 RC none := ⟨hx, hb, hr, hml, hown, hts, hlocks⟩
  subst hsz
  have hD := hD0.self (sz := s.heap.size)
  generalize hAe : va_A (WC h k st) s.heap.size = A at hD hZ ⊢
  have hA : ∀ q : Nat, s.heap.size ≤ q → A q := fun q h => by rw [← hAe]; exact Or.inr h
  have hS : va_S A s.heap s.heap [] := va_S.rf
  have hl := lv_entry ([.ref (h 0), .int p0]) (n := 3) (Nat.le_of_ble_eq_true rfl)
  rw [lg_entry_eq]
  generalize (lg_sl ([.ref (h 0), .int p0]) ++ List.replicate (3 - (lg_sl ([.ref (h 0), .int p0])).length) Slot.unset).toArray = ls at hl ⊢
  have hl : lv_has ls 3 [(0, .ref (h 0)), (1, .int p0)] := hl
  unfold w_C_drop at hw
  refine lv_aload_n hx hb d_C_drop_0 rfl (lv_at hl 0 rfl) ?_
  refine lv_iload_n hx hb d_C_drop_1 rfl (lv_at hl 1 rfl) ?_
  refine vp_callSi (va_Run.run (va_runV (As := [.int p0]) (rest := []) ⟨hx, hb, hml, hown, hts⟩ (t_C_isLine l dC dI h k st p0 hw) (cwV 1 hts (gV m_275 m_277 s_12 m_1 (cw_call m_278)) rfl rfl rfl (by decide +kernel) ⟨Nat.le_of_ble_eq_true rfl, Nat.le_of_ble_eq_true rfl⟩) ⟨pRo_bl, va_recv hK hP (ci := 1) (q0 := 0) rfl rfl, fun U hU hW => ⟨rfl, pRo_at hP hK hN hU hW⟩⟩ rfl rfl hl.1 rfl (lv_room (Nat.le_of_ble_eq_true rfl)) d_C_drop_2 ⟨Nat.le_of_ble_eq_true rfl, Nat.le_of_ble_eq_true rfl⟩)) (fun r1 hw => ?_)
  refine lv_if_ne (tgt := 18) hx hb d_C_drop_5 (by decide) (fun c2 => ?_) (fun c2 => ?_)
  · skip
    have hw := hw.1 c2
    refine lv_iload_n hx hb d_C_drop_18 rfl (lv_at hl 1 rfl) ?_
    refine lv_iconst (v := 1) hx hb d_C_drop_19 (by decide) ?_
    refine lv_iadd hx hb d_C_drop_20 ?_
    refine lv_topi (fun y3 ey3 => ?_)
    have hw := hw y3 ey3
    refine lv_istore_n (lv' := [(2, .int y3), (0, .ref (h 0)), (1, .int p0)]) hx hb d_C_drop_21 rfl hl (by decide) rfl (fun ls hl => ?_)
    obtain ⟨n4, hw⟩ := hw
    exact k_C_drop_22 C0 hK hN hA n4 st y3 _ _ hP hD hS ls (lv_sub hl [1, 0] rfl) hw
  · skip
    have hw := hw.2 c2
    obtain ⟨sa, hsa⟩ := hT (74, "no such line") (by decide +kernel)
    exact vx_throwS (own := RC) (cls := eIO) (text := "no such line") (names := eUp) (ik := 72) (is := 74) (ic := 76) (sa := sa) (A := A) hx hb hst hown (by decide +kernel) f_up (hts _ m_279) (hts _ m_11) hsa (fun w h => (x_IO w h).elim (hts w) (fun q => hX.use q)) o_IO hZ.1 hZ.2 hS (hl.1.trans hml.symm) d_C_drop_8 d_C_drop_11 d_C_drop_12 d_C_drop_14 d_C_drop_17 (fun x hx => (hno x hx).elim) (Nat.le_of_ble_eq_true rfl) (Nat.le_of_ble_eq_true rfl) (Nat.le_of_ble_eq_true rfl) (Nat.le_of_ble_eq_true rfl) hlocks (fun t ha hz hk => ⟨(eIO, st), hw, ⟨rfl, hP.kept (fun k q hq => hk q.1 (hP k q hq).lt), hD⟩, xF hS hz hk⟩) hS.2.2 (Nat.le_of_ble_eq_true rfl) (Nat.le_of_ble_eq_true rfl)
def w_C_cut (st : CS) (post : Int64 → CS → Prop) (px : String → CS → Prop) (p0 : Int32) (p1 : Int32) : Prop := (p0 < 0 → (px eIO st)) ∧ (¬ p0 < 0 → ((p0 < (KS.cnt (CS.cu st)) → (w_C_isPart (fun r3 => ((¬ r3 = 0 → (w_K_samplePart (CS.cu st) (fun r5 => (post r5 st)) ((2 * p0) + 1) p1)) ∧ (r3 = 0 → (px eIA st)))) p1)) ∧ (¬ p0 < (KS.cnt (CS.cu st)) → (px eIO st))))
set_option maxHeartbeats 4000000 in
set_option maxRecDepth 100000 in
theorem t_C_cut (l : Launch) (hst : l.stackTraces = false) (dC : Nat → ClassId) (dI : Nat → Nat → Nat) (h : Nat → Nat) (k : Nat → ClassId) (sz : Nat) (st : CS) (p0 : Int32) (p1 : Int32) {post : Int64 → CS → Prop} {px : String → CS → Prop} (hw : w_C_cut st post px p0 p1) : vx_Met l y_C_cut (Cond.code y_C_cut prog_1_method_5_code 3 (some .long) :: cw) ({ frames := 6, cells := 1, slots := 6, locals := 104 } : Room) (va_Pc [.ref (h 0), .int p0, .int p1] (pRx (dC, dI) (WC h k st) (YC k) sz)) (va_Ql post (fun u t => va_P (dC, dI) vwCl (WC h k u) t.heap ∧ va_D (va_A (WC h k st) sz) (WC h k u)) (va_A (WC h k st) sz)) (vx_X (fun z : String × CS => px z.1 z.2) (fun E z t => z.1 = E ∧ va_P (dC, dI) vwCl (WC h k z.2) t.heap ∧ va_D (va_A (WC h k st) sz) (WC h k z.2)) (va_A (WC h k st) sz)) 1 6 (va_A (WC h k st) sz) := by
  refine vx_ofW (cc := prog_1_method_5_code) (maxL := 3) (ret := (some .long)) (by decide) rfl ?_
  intro p e s m args below meth c s₁ B hml hno hv
  obtain ⟨rfl, ⟨hsz, hP, hK, hN, hD0⟩, hX, hT, hZ⟩ := hv
  have hx := B.exec
  have hb := B.bytes
  have hr := B.returns
  have hts : ∀ w ∈ cw, w.before _ s = true := fun w h => atoms_spec (ws := (Cond.code y_C_cut prog_1_method_5_code 3 (some .long) :: cw)) B.pre w (List.mem_cons_of_mem _ h)
  have hown : s.vm.findClass RC = some m.cls := findClass_of_methodNamed B.named
  have hlocks := B.notSynchronized
  have C0 : cxt p s m _ meth c prog_1_method_5_code 3 RC (some .long) := ⟨hx, hb, hr, hml, hown, hts, hlocks⟩
  subst hsz
  have hD := hD0.self (sz := s.heap.size)
  generalize hAe : va_A (WC h k st) s.heap.size = A at hD hZ ⊢
  have hA : ∀ q : Nat, s.heap.size ≤ q → A q := fun q h => by rw [← hAe]; exact Or.inr h
  have hS : va_S A s.heap s.heap [] := va_S.rf
  have hl := lv_entry ([.ref (h 0), .int p0, .int p1]) (n := 3) (Nat.le_of_ble_eq_true rfl)
  rw [lg_entry_eq]
  generalize (lg_sl ([.ref (h 0), .int p0, .int p1]) ++ List.replicate (3 - (lg_sl ([.ref (h 0), .int p0, .int p1])).length) Slot.unset).toArray = ls at hl ⊢
  have hl : lv_has ls 3 [(0, .ref (h 0)), (1, .int p0), (2, .int p1)] := hl
  unfold w_C_cut at hw
  refine lv_iload_n hx hb d_C_cut_0 rfl (lv_at hl 1 rfl) ?_
  refine lv_if_lt (tgt := 15) hx hb d_C_cut_1 (by decide) (fun c1 => ?_) (fun c1 => ?_)
  · skip
    have hw := hw.1 c1
    obtain ⟨sa, hsa⟩ := hT (80, "no such cut") (by decide +kernel)
    exact vx_throwS (own := RC) (cls := eIO) (text := "no such cut") (names := eUp) (ik := 72) (is := 80) (ic := 76) (sa := sa) (A := A) hx hb hst hown (by decide +kernel) f_up (hts _ m_279) (hts _ m_11) hsa (fun w h => (x_IO w h).elim (hts w) (fun q => hX.use q)) o_IO hZ.1 hZ.2 hS (hl.1.trans hml.symm) d_C_cut_15 d_C_cut_18 d_C_cut_19 d_C_cut_21 d_C_cut_24 (fun x hx => (hno x hx).elim) (Nat.le_of_ble_eq_true rfl) (Nat.le_of_ble_eq_true rfl) (Nat.le_of_ble_eq_true rfl) (Nat.le_of_ble_eq_true rfl) hlocks (fun t ha hz hk => ⟨(eIO, st), hw, ⟨rfl, hP.kept (fun k q hq => hk q.1 (hP k q hq).lt), hD⟩, xF hS hz hk⟩) hS.2.2 (Nat.le_of_ble_eq_true rfl) (Nat.le_of_ble_eq_true rfl)
  · skip
    have hw := hw.2 c1
    refine lv_iload_n hx hb d_C_cut_4 rfl (lv_at hl 1 rfl) ?_
    refine lv_aload_n hx hb d_C_cut_5 rfl (lv_at hl 0 rfl) ?_
    refine va_get (D := (dC, dI)) (ci := 1) (v := .ref (h 4)) (C := RC) (T := TC) (N := 10) hx hb hts i_C hown hK hP 0 rfl rfl 4 (by decide) (hts _ m_109) (fun _ h9 => h9) rfl d_C_cut_6 ?_
    refine va_getN (D := (dC, dI)) (ci := 0) (v := .int (KS.cnt (CS.cu st))) (C := RK) (T := TK) (N := 3) hx hb hts i_K hown hK hP 4 rfl rfl 2 (by decide) (va_Nw.use rfl hN) (fun _ h9 => h9) rfl d_C_cut_9 ?_
    refine lv_icmp_lt (tgt := 25) hx hb d_C_cut_12 (by decide) (fun c2 => ?_) (fun c2 => ?_)
    · skip
      have hw := hw.1 c2
      refine lv_iload_n hx hb d_C_cut_25 rfl (lv_at hl 2 rfl) ?_
      refine vp_callSi (va_Run.run (va_runS (As := [.int p1]) (rest := []) ⟨hx, hb, hml, hown, hts⟩ (t_C_isPart l p1 hw) (va_cwS 1 hts (gS m_303 m_304 m_1 (cw_call m_305)) rfl rfl rfl (by decide +kernel) ⟨Nat.le_of_ble_eq_true rfl, Nat.le_of_ble_eq_true rfl⟩) ⟨pSt_bl, fun U hU hW => ⟨rfl, trivial⟩⟩ rfl rfl hl.1 rfl (lv_room (Nat.le_of_ble_eq_true rfl)) d_C_cut_26 ⟨Nat.le_of_ble_eq_true rfl, Nat.le_of_ble_eq_true rfl⟩)) (fun r3 hw => ?_)
      refine lv_if_ne (tgt := 42) hx hb d_C_cut_29 (by decide) (fun c4 => ?_) (fun c4 => ?_)
      · skip
        have hw := hw.1 c4
        refine lv_aload_n hx hb d_C_cut_42 rfl (lv_at hl 0 rfl) ?_
        refine va_get (D := (dC, dI)) (ci := 1) (v := .ref (h 4)) (C := RC) (T := TC) (N := 10) hx hb hts i_C hown hK hP 0 rfl rfl 4 (by decide) (hts _ m_109) (fun _ h9 => h9) rfl d_C_cut_43 ?_
        refine lv_iconst (v := 2) hx hb d_C_cut_46 (by decide) ?_
        refine lv_iload_n hx hb d_C_cut_47 rfl (lv_at hl 1 rfl) ?_
        refine lv_imul hx hb d_C_cut_48 ?_
        refine lv_iconst (v := 1) hx hb d_C_cut_49 (by decide) ?_
        refine lv_iadd hx hb d_C_cut_50 ?_
        refine lv_iload_n hx hb d_C_cut_51 rfl (lv_at hl 2 rfl) ?_
        have hPc := hP.sub (ws' := WK (fun i => h (4 + i)) (fun i => k (4 + i)) (CS.cu st)) [4, 5, 6] rfl
        have hKc := hK.sub (tys' := YK (fun i => k (4 + i))) [3, 4] rfl
        refine vp_callSl (va_Run.run (va_runV (As := [.int ((2 * p0) + 1), .int p1]) (rest := []) ⟨hx, hb, hml, hown, hts⟩ (t_K_samplePart l dC dI (fun i => h (4 + i)) (fun i => k (4 + i)) (CS.cu st) ((2 * p0) + 1) p1 hw) (cwV 2 hts (gV m_72 m_73 m_74 m_2 (cw_call m_75)) rfl rfl rfl (by decide +kernel) ⟨Nat.le_of_ble_eq_true rfl, Nat.le_of_ble_eq_true rfl⟩) ⟨pRo_bl, va_recv hKc hPc (ci := 0) (q0 := 0) rfl rfl, fun U hU hW => ⟨rfl, pRo_at hPc hKc hN hU hW⟩⟩ rfl rfl hl.1 rfl (lv_room (Nat.le_of_ble_eq_true rfl)) d_C_cut_52 ⟨Nat.le_of_ble_eq_true rfl, Nat.le_of_ble_eq_true rfl⟩)) (fun r5 hw => ?_)
        refine vx_ret ?_
        refine W.widen (k := 1) (n := 6) (Nat.le_of_ble_eq_true rfl) (Nat.le_of_ble_eq_true rfl) ?_
        exact W.lret (v := r5) hx hb hr (fun t ht hW => ⟨⟨r5, st, rfl, hw, by rw [ht]; exact hP, hD⟩, hS.F ht⟩) hS.2.2 d_C_cut_55
      · skip
        have hw := hw.2 c4
        obtain ⟨sa, hsa⟩ := hT (85, "a part is 0 or 1") (by decide +kernel)
        exact vx_throwS (own := RC) (cls := eIA) (text := "a part is 0 or 1") (names := eUp) (ik := 55) (is := 85) (ic := 59) (sa := sa) (A := A) hx hb hst hown (by decide +kernel) f_up (hts _ m_182) (hts _ m_9) hsa (fun w h => (x_IA w h).elim (hts w) (fun q => hX.use q)) o_IA hZ.1 hZ.2 hS (hl.1.trans hml.symm) d_C_cut_32 d_C_cut_35 d_C_cut_36 d_C_cut_38 d_C_cut_41 (fun x hx => (hno x hx).elim) (Nat.le_of_ble_eq_true rfl) (Nat.le_of_ble_eq_true rfl) (Nat.le_of_ble_eq_true rfl) (Nat.le_of_ble_eq_true rfl) hlocks (fun t ha hz hk => ⟨(eIA, st), hw, ⟨rfl, hP.kept (fun k q hq => hk q.1 (hP k q hq).lt), hD⟩, xF hS hz hk⟩) hS.2.2 (Nat.le_of_ble_eq_true rfl) (Nat.le_of_ble_eq_true rfl)
    · skip
      have hw := hw.2 c2
      obtain ⟨sa, hsa⟩ := hT (80, "no such cut") (by decide +kernel)
      exact vx_throwS (own := RC) (cls := eIO) (text := "no such cut") (names := eUp) (ik := 72) (is := 80) (ic := 76) (sa := sa) (A := A) hx hb hst hown (by decide +kernel) f_up (hts _ m_279) (hts _ m_11) hsa (fun w h => (x_IO w h).elim (hts w) (fun q => hX.use q)) o_IO hZ.1 hZ.2 hS (hl.1.trans hml.symm) d_C_cut_15 d_C_cut_18 d_C_cut_19 d_C_cut_21 d_C_cut_24 (fun x hx => (hno x hx).elim) (Nat.le_of_ble_eq_true rfl) (Nat.le_of_ble_eq_true rfl) (Nat.le_of_ble_eq_true rfl) (Nat.le_of_ble_eq_true rfl) hlocks (fun t ha hz hk => ⟨(eIO, st), hw, ⟨rfl, hP.kept (fun k q hq => hk q.1 (hP k q hq).lt), hD⟩, xF hS hz hk⟩) hS.2.2 (Nat.le_of_ble_eq_true rfl) (Nat.le_of_ble_eq_true rfl)
def w_C_curves (st : CS) (post : Int32 → CS → Prop) (px : String → CS → Prop) (p0 : Int32) : Prop := (p0 < 0 → (px eIO st)) ∧ (¬ p0 < 0 → (w_C_stripCount st (fun r2 => ((p0 < r2 → (w_C_cellsOf st (fun r4 => (post (r4 / 2) st)) p0)) ∧ (¬ p0 < r2 → (px eIO st)))) ))
set_option maxHeartbeats 4000000 in
set_option maxRecDepth 100000 in
theorem t_C_curves (l : Launch) (hst : l.stackTraces = false) (dC : Nat → ClassId) (dI : Nat → Nat → Nat) (h : Nat → Nat) (k : Nat → ClassId) (sz : Nat) (st : CS) (p0 : Int32) {post : Int32 → CS → Prop} {px : String → CS → Prop} (hw : w_C_curves st post px p0) : vx_Met l y_C_curves (Cond.code y_C_curves prog_1_method_6_code 2 (some .int) :: cw) ({ frames := 6, cells := 1, slots := 6, locals := 82 } : Room) (va_Pc [.ref (h 0), .int p0] (pRx (dC, dI) (WC h k st) (YC k) sz)) (va_Qi post (fun u t => va_P (dC, dI) vwCl (WC h k u) t.heap ∧ va_D (va_A (WC h k st) sz) (WC h k u)) (va_A (WC h k st) sz)) (vx_X (fun z : String × CS => px z.1 z.2) (fun E z t => z.1 = E ∧ va_P (dC, dI) vwCl (WC h k z.2) t.heap ∧ va_D (va_A (WC h k st) sz) (WC h k z.2)) (va_A (WC h k st) sz)) 1 6 (va_A (WC h k st) sz) := by
  refine vx_ofW (cc := prog_1_method_6_code) (maxL := 2) (ret := (some .int)) (by decide) rfl ?_
  intro p e s m args below meth c s₁ B hml hno hv
  obtain ⟨rfl, ⟨hsz, hP, hK, hN, hD0⟩, hX, hT, hZ⟩ := hv
  have hx := B.exec
  have hb := B.bytes
  have hr := B.returns
  have hts : ∀ w ∈ cw, w.before _ s = true := fun w h => atoms_spec (ws := (Cond.code y_C_curves prog_1_method_6_code 2 (some .int) :: cw)) B.pre w (List.mem_cons_of_mem _ h)
  have hown : s.vm.findClass RC = some m.cls := findClass_of_methodNamed B.named
  have hlocks := B.notSynchronized
  have C0 : cxt p s m _ meth c prog_1_method_6_code 2 RC (some .int) := ⟨hx, hb, hr, hml, hown, hts, hlocks⟩
  subst hsz
  have hD := hD0.self (sz := s.heap.size)
  generalize hAe : va_A (WC h k st) s.heap.size = A at hD hZ ⊢
  have hA : ∀ q : Nat, s.heap.size ≤ q → A q := fun q h => by rw [← hAe]; exact Or.inr h
  have hS : va_S A s.heap s.heap [] := va_S.rf
  have hl := lv_entry ([.ref (h 0), .int p0]) (n := 2) (Nat.le_of_ble_eq_true rfl)
  rw [lg_entry_eq]
  generalize (lg_sl ([.ref (h 0), .int p0]) ++ List.replicate (2 - (lg_sl ([.ref (h 0), .int p0])).length) Slot.unset).toArray = ls at hl ⊢
  have hl : lv_has ls 2 [(0, .ref (h 0)), (1, .int p0)] := hl
  unfold w_C_curves at hw
  refine lv_iload_n hx hb d_C_curves_0 rfl (lv_at hl 1 rfl) ?_
  refine lv_if_lt (tgt := 12) hx hb d_C_curves_1 (by decide) (fun c1 => ?_) (fun c1 => ?_)
  · skip
    have hw := hw.1 c1
    obtain ⟨sa, hsa⟩ := hT (95, "no such strip") (by decide +kernel)
    exact vx_throwS (own := RC) (cls := eIO) (text := "no such strip") (names := eUp) (ik := 72) (is := 95) (ic := 76) (sa := sa) (A := A) hx hb hst hown (by decide +kernel) f_up (hts _ m_279) (hts _ m_11) hsa (fun w h => (x_IO w h).elim (hts w) (fun q => hX.use q)) o_IO hZ.1 hZ.2 hS (hl.1.trans hml.symm) d_C_curves_12 d_C_curves_15 d_C_curves_16 d_C_curves_18 d_C_curves_21 (fun x hx => (hno x hx).elim) (Nat.le_of_ble_eq_true rfl) (Nat.le_of_ble_eq_true rfl) (Nat.le_of_ble_eq_true rfl) (Nat.le_of_ble_eq_true rfl) hlocks (fun t ha hz hk => ⟨(eIO, st), hw, ⟨rfl, hP.kept (fun k q hq => hk q.1 (hP k q hq).lt), hD⟩, xF hS hz hk⟩) hS.2.2 (Nat.le_of_ble_eq_true rfl) (Nat.le_of_ble_eq_true rfl)
  · skip
    have hw := hw.2 c1
    refine lv_iload_n hx hb d_C_curves_4 rfl (lv_at hl 1 rfl) ?_
    refine lv_aload_n hx hb d_C_curves_5 rfl (lv_at hl 0 rfl) ?_
    refine vp_callSi (va_Run.run (va_runV (As := []) (rest := [.int p0]) ⟨hx, hb, hml, hown, hts⟩ (t_C_stripCount l dC dI h k st  hw) (cwV 0 hts (gV m_64 m_66 s_3 m_1 (cw_call m_67)) rfl rfl rfl (by decide +kernel) ⟨Nat.le_of_ble_eq_true rfl, Nat.le_of_ble_eq_true rfl⟩) ⟨pRo_bl, va_recv hK hP (ci := 1) (q0 := 0) rfl rfl, fun U hU hW => ⟨rfl, pRo_at hP hK hN hU hW⟩⟩ rfl rfl hl.1 rfl (lv_room (Nat.le_of_ble_eq_true rfl)) d_C_curves_6 ⟨Nat.le_of_ble_eq_true rfl, Nat.le_of_ble_eq_true rfl⟩)) (fun r2 hw => ?_)
    refine lv_icmp_lt (tgt := 22) hx hb d_C_curves_9 (by decide) (fun c3 => ?_) (fun c3 => ?_)
    · skip
      have hw := hw.1 c3
      refine lv_aload_n hx hb d_C_curves_22 rfl (lv_at hl 0 rfl) ?_
      refine lv_iload_n hx hb d_C_curves_23 rfl (lv_at hl 1 rfl) ?_
      refine vp_callSi (va_Run.run (va_runV (As := [.int p0]) (rest := []) ⟨hx, hb, hml, hown, hts⟩ (t_C_cellsOf l dC dI h k st p0 hw) (cwV 1 hts (gV m_148 m_150 s_8 m_1 (cw_call m_151)) rfl rfl rfl (by decide +kernel) ⟨Nat.le_of_ble_eq_true rfl, Nat.le_of_ble_eq_true rfl⟩) ⟨pRo_bl, va_recv hK hP (ci := 1) (q0 := 0) rfl rfl, fun U hU hW => ⟨rfl, pRo_at hP hK hN hU hW⟩⟩ rfl rfl hl.1 rfl (lv_room (Nat.le_of_ble_eq_true rfl)) d_C_curves_24 ⟨Nat.le_of_ble_eq_true rfl, Nat.le_of_ble_eq_true rfl⟩)) (fun r4 hw => ?_)
      refine lv_iconst (v := 2) hx hb d_C_curves_27 (by decide) ?_
      refine lv_idiv hx hb d_C_curves_28 (by decide) ?_
      refine vx_ret ?_
      refine W.widen (k := 1) (n := 6) (Nat.le_of_ble_eq_true rfl) (Nat.le_of_ble_eq_true rfl) ?_
      exact W.iret (v := (r4 / 2)) hx hb hr (fun t ht hW => ⟨⟨(r4 / 2), st, rfl, hw, by rw [ht]; exact hP, hD⟩, hS.F ht⟩) hS.2.2 d_C_curves_29
    · skip
      have hw := hw.2 c3
      obtain ⟨sa, hsa⟩ := hT (95, "no such strip") (by decide +kernel)
      exact vx_throwS (own := RC) (cls := eIO) (text := "no such strip") (names := eUp) (ik := 72) (is := 95) (ic := 76) (sa := sa) (A := A) hx hb hst hown (by decide +kernel) f_up (hts _ m_279) (hts _ m_11) hsa (fun w h => (x_IO w h).elim (hts w) (fun q => hX.use q)) o_IO hZ.1 hZ.2 hS (hl.1.trans hml.symm) d_C_curves_12 d_C_curves_15 d_C_curves_16 d_C_curves_18 d_C_curves_21 (fun x hx => (hno x hx).elim) (Nat.le_of_ble_eq_true rfl) (Nat.le_of_ble_eq_true rfl) (Nat.le_of_ble_eq_true rfl) (Nat.le_of_ble_eq_true rfl) hlocks (fun t ha hz hk => ⟨(eIO, st), hw, ⟨rfl, hP.kept (fun k q hq => hk q.1 (hP k q hq).lt), hD⟩, xF hS hz hk⟩) hS.2.2 (Nat.le_of_ble_eq_true rfl) (Nat.le_of_ble_eq_true rfl)
def w_C_cell (st : CS) (post : Int32 → CS → Prop) (px : String → CS → Prop) (p0 : Int32) (p1 : Int32) : Prop := w_C_isCell st (fun r1 => ((¬ r1 = 0 → (w_C_stripOf st (fun r3 => (vp_in r3 32 ∧ (∀ y5 : Int32, y5 = (p0 - ((CS.fc st) r3.toNatClampNeg)) → ((p1 = 0 → (post r3 st)) ∧ (¬ p1 = 0 → ((p1 = 1 → (post y5 st)) ∧ (¬ p1 = 1 → ((p1 = 2 → (post ((2 - (r3 - r3 / 2 * 2)) - (y5 - y5 / 2 * 2)) st)) ∧ (¬ p1 = 2 → (px eIA st)))))))))) p0)) ∧ (r1 = 0 → (px eIO st)))) p0
set_option maxHeartbeats 4000000 in
set_option maxRecDepth 100000 in
theorem t_C_cell (l : Launch) (hst : l.stackTraces = false) (dC : Nat → ClassId) (dI : Nat → Nat → Nat) (h : Nat → Nat) (k : Nat → ClassId) (sz : Nat) (st : CS) (p0 : Int32) (p1 : Int32) {post : Int32 → CS → Prop} {px : String → CS → Prop} (hw : w_C_cell st post px p0 p1) : vx_Met l y_C_cell (Cond.code y_C_cell prog_1_method_8_code 5 (some .int) :: cw) ({ frames := 6, cells := 1, slots := 6, locals := 82 } : Room) (va_Pc [.ref (h 0), .int p0, .int p1] (pRx (dC, dI) (WC h k st) (YC k) sz)) (va_Qi post (fun u t => va_P (dC, dI) vwCl (WC h k u) t.heap ∧ va_D (va_A (WC h k st) sz) (WC h k u)) (va_A (WC h k st) sz)) (vx_X (fun z : String × CS => px z.1 z.2) (fun E z t => z.1 = E ∧ va_P (dC, dI) vwCl (WC h k z.2) t.heap ∧ va_D (va_A (WC h k st) sz) (WC h k z.2)) (va_A (WC h k st) sz)) 1 6 (va_A (WC h k st) sz) := by
  refine vx_ofW (cc := prog_1_method_8_code) (maxL := 5) (ret := (some .int)) (by decide) rfl ?_
  intro p e s m args below meth c s₁ B hml hno hv
  obtain ⟨rfl, ⟨hsz, hP, hK, hN, hD0⟩, hX, hT, hZ⟩ := hv
  have hx := B.exec
  have hb := B.bytes
  have hr := B.returns
  have hts : ∀ w ∈ cw, w.before _ s = true := fun w h => atoms_spec (ws := (Cond.code y_C_cell prog_1_method_8_code 5 (some .int) :: cw)) B.pre w (List.mem_cons_of_mem _ h)
  have hown : s.vm.findClass RC = some m.cls := findClass_of_methodNamed B.named
  have hlocks := B.notSynchronized
  have C0 : cxt p s m _ meth c prog_1_method_8_code 5 RC (some .int) := ⟨hx, hb, hr, hml, hown, hts, hlocks⟩
  subst hsz
  have hD := hD0.self (sz := s.heap.size)
  generalize hAe : va_A (WC h k st) s.heap.size = A at hD hZ ⊢
  have hA : ∀ q : Nat, s.heap.size ≤ q → A q := fun q h => by rw [← hAe]; exact Or.inr h
  have hS : va_S A s.heap s.heap [] := va_S.rf
  have hl := lv_entry ([.ref (h 0), .int p0, .int p1]) (n := 5) (Nat.le_of_ble_eq_true rfl)
  rw [lg_entry_eq]
  generalize (lg_sl ([.ref (h 0), .int p0, .int p1]) ++ List.replicate (5 - (lg_sl ([.ref (h 0), .int p0, .int p1])).length) Slot.unset).toArray = ls at hl ⊢
  have hl : lv_has ls 5 [(0, .ref (h 0)), (1, .int p0), (2, .int p1)] := hl
  unfold w_C_cell at hw
  refine lv_aload_n hx hb d_C_cell_0 rfl (lv_at hl 0 rfl) ?_
  refine lv_iload_n hx hb d_C_cell_1 rfl (lv_at hl 1 rfl) ?_
  refine vp_callSi (va_Run.run (va_runV (As := [.int p0]) (rest := []) ⟨hx, hb, hml, hown, hts⟩ (t_C_isCell l dC dI h k st p0 hw) (cwV 1 hts (gV m_322 m_324 s_13 m_1 (cw_call m_325)) rfl rfl rfl (by decide +kernel) ⟨Nat.le_of_ble_eq_true rfl, Nat.le_of_ble_eq_true rfl⟩) ⟨pRo_bl, va_recv hK hP (ci := 1) (q0 := 0) rfl rfl, fun U hU hW => ⟨rfl, pRo_at hP hK hN hU hW⟩⟩ rfl rfl hl.1 rfl (lv_room (Nat.le_of_ble_eq_true rfl)) d_C_cell_2 ⟨Nat.le_of_ble_eq_true rfl, Nat.le_of_ble_eq_true rfl⟩)) (fun r1 hw => ?_)
  refine lv_if_ne (tgt := 18) hx hb d_C_cell_5 (by decide) (fun c2 => ?_) (fun c2 => ?_)
  · skip
    have hw := hw.1 c2
    refine lv_aload_n hx hb d_C_cell_18 rfl (lv_at hl 0 rfl) ?_
    refine lv_iload_n hx hb d_C_cell_19 rfl (lv_at hl 1 rfl) ?_
    refine vp_callSi (va_Run.run (va_runV (As := [.int p0]) (rest := []) ⟨hx, hb, hml, hown, hts⟩ (t_C_stripOf l dC dI h k st p0 hw) (cwV 1 hts (gV m_327 m_329 s_14 m_1 (cw_call m_330)) rfl rfl rfl (by decide +kernel) ⟨Nat.le_of_ble_eq_true rfl, Nat.le_of_ble_eq_true rfl⟩) ⟨pRo_bl, va_recv hK hP (ci := 1) (q0 := 0) rfl rfl, fun U hU hW => ⟨rfl, pRo_at hP hK hN hU hW⟩⟩ rfl rfl hl.1 rfl (lv_room (Nat.le_of_ble_eq_true rfl)) d_C_cell_20 ⟨Nat.le_of_ble_eq_true rfl, Nat.le_of_ble_eq_true rfl⟩)) (fun r3 hw => ?_)
    refine lv_istore_n (lv' := [(3, .int r3), (0, .ref (h 0)), (1, .int p0), (2, .int p1)]) hx hb d_C_cell_23 rfl hl (by decide) rfl (fun ls hl => ?_)
    refine lv_iload_n hx hb d_C_cell_24 rfl (lv_at hl 2 rfl) ?_
    refine lv_aload_n hx hb d_C_cell_25 rfl (lv_at hl 1 rfl) ?_
    refine va_get (D := (dC, dI)) (ci := 1) (v := .ref (h 13)) (C := RC) (T := TC) (N := 10) hx hb hts i_C hown hK hP 0 rfl rfl 9 (by decide) (hts _ m_114) (fun _ h9 => h9) rfl d_C_cell_26 ?_
    refine lv_iload_n hx hb d_C_cell_29 rfl (lv_at hl 0 rfl) ?_
    obtain ⟨h4, hw⟩ := hw
    refine va_iald hx hb hK hP 13 10 rfl rfl h4 d_C_cell_30 ?_
    refine lv_isub hx hb d_C_cell_31 ?_
    refine lv_topi (fun y5 ey5 => ?_)
    have hw := hw y5 ey5
    refine lv_istore (lv' := [(4, .int y5), (3, .int r3), (0, .ref (h 0)), (1, .int p0), (2, .int p1)]) hx hb d_C_cell_32 hl (by decide) rfl (fun ls hl => ?_)
    refine lv_iload_n hx hb d_C_cell_34 rfl (lv_at hl 4 rfl) ?_
    by_cases c6 : p1 = 0
    · have hw := hw.1 c6
      refine lv_tableIn (tgt := 60) hx hb d_C_cell_35 (by rw [c6]; decide) (by rw [c6]; decide) (off := 25) (by rw [c6]; rfl) (by decide) ?_
      refine lv_iload_n hx hb d_C_cell_60 rfl (lv_at hl 1 rfl) ?_
      refine vx_ret ?_
      refine W.widen (k := 1) (n := 6) (Nat.le_of_ble_eq_true rfl) (Nat.le_of_ble_eq_true rfl) ?_
      exact W.iret (v := r3) hx hb hr (fun t ht hW => ⟨⟨r3, st, rfl, hw, by rw [ht]; exact hP, hD⟩, hS.F ht⟩) hS.2.2 d_C_cell_61
    have hw := hw.2 c6
    by_cases c7 : p1 = 1
    · have hw := hw.1 c7
      refine lv_tableIn (tgt := 62) hx hb d_C_cell_35 (by rw [c7]; decide) (by rw [c7]; decide) (off := 27) (by rw [c7]; rfl) (by decide) ?_
      refine lv_iload hx hb d_C_cell_62 (lv_at hl 0 rfl) ?_
      refine vx_ret ?_
      refine W.widen (k := 1) (n := 6) (Nat.le_of_ble_eq_true rfl) (Nat.le_of_ble_eq_true rfl) ?_
      exact W.iret (v := y5) hx hb hr (fun t ht hW => ⟨⟨y5, st, rfl, hw, by rw [ht]; exact hP, hD⟩, hS.F ht⟩) hS.2.2 d_C_cell_64
    have hw := hw.2 c7
    by_cases c8 : p1 = 2
    · have hw := hw.1 c8
      refine lv_tableIn (tgt := 65) hx hb d_C_cell_35 (by rw [c8]; decide) (by rw [c8]; decide) (off := 30) (by rw [c8]; rfl) (by decide) ?_
      refine lv_iconst (v := 2) hx hb d_C_cell_65 (by decide) ?_
      refine lv_iload_n hx hb d_C_cell_66 rfl (lv_at hl 1 rfl) ?_
      refine lv_iconst (v := 2) hx hb d_C_cell_67 (by decide) ?_
      refine lv_irem hx hb d_C_cell_68 (by decide) ?_
      refine lv_isub hx hb d_C_cell_69 ?_
      refine lv_iload hx hb d_C_cell_70 (lv_at hl 0 rfl) ?_
      refine lv_iconst (v := 2) hx hb d_C_cell_72 (by decide) ?_
      refine lv_irem hx hb d_C_cell_73 (by decide) ?_
      refine lv_isub hx hb d_C_cell_74 ?_
      refine vx_ret ?_
      refine W.widen (k := 1) (n := 6) (Nat.le_of_ble_eq_true rfl) (Nat.le_of_ble_eq_true rfl) ?_
      exact W.iret (v := ((2 - (r3 - r3 / 2 * 2)) - (y5 - y5 / 2 * 2))) hx hb hr (fun t ht hW => ⟨⟨((2 - (r3 - r3 / 2 * 2)) - (y5 - y5 / 2 * 2)), st, rfl, hw, by rw [ht]; exact hP, hD⟩, hS.F ht⟩) hS.2.2 d_C_cell_75
    have hw := hw.2 c8
    have tc6 := lv_neT c6 (show (0 : Int32).toInt = 0 from by decide)
    have tc7 := lv_neT c7 (show (1 : Int32).toInt = 1 from by decide)
    have tc8 := lv_neT c8 (show (2 : Int32).toInt = 2 from by decide)
    refine lv_tableOut (tgt := 76) hx hb d_C_cell_35 (by omega) (by decide) ?_
    obtain ⟨sa, hsa⟩ := hT (109, "what is 0, 1 or 2") (by decide +kernel)
    exact vx_throwS (own := RC) (cls := eIA) (text := "what is 0, 1 or 2") (names := eUp) (ik := 55) (is := 109) (ic := 59) (sa := sa) (A := A) hx hb hst hown (by decide +kernel) f_up (hts _ m_182) (hts _ m_9) hsa (fun w h => (x_IA w h).elim (hts w) (fun q => hX.use q)) o_IA hZ.1 hZ.2 hS (hl.1.trans hml.symm) d_C_cell_76 d_C_cell_79 d_C_cell_80 d_C_cell_82 d_C_cell_85 (fun x hx => (hno x hx).elim) (Nat.le_of_ble_eq_true rfl) (Nat.le_of_ble_eq_true rfl) (Nat.le_of_ble_eq_true rfl) (Nat.le_of_ble_eq_true rfl) hlocks (fun t ha hz hk => ⟨(eIA, st), hw, ⟨rfl, hP.kept (fun k q hq => hk q.1 (hP k q hq).lt), hD⟩, xF hS hz hk⟩) hS.2.2 (Nat.le_of_ble_eq_true rfl) (Nat.le_of_ble_eq_true rfl)
  · skip
    have hw := hw.2 c2
    obtain ⟨sa, hsa⟩ := hT (104, "no such cell") (by decide +kernel)
    exact vx_throwS (own := RC) (cls := eIO) (text := "no such cell") (names := eUp) (ik := 72) (is := 104) (ic := 76) (sa := sa) (A := A) hx hb hst hown (by decide +kernel) f_up (hts _ m_279) (hts _ m_11) hsa (fun w h => (x_IO w h).elim (hts w) (fun q => hX.use q)) o_IO hZ.1 hZ.2 hS (hl.1.trans hml.symm) d_C_cell_8 d_C_cell_11 d_C_cell_12 d_C_cell_14 d_C_cell_17 (fun x hx => (hno x hx).elim) (Nat.le_of_ble_eq_true rfl) (Nat.le_of_ble_eq_true rfl) (Nat.le_of_ble_eq_true rfl) (Nat.le_of_ble_eq_true rfl) hlocks (fun t ha hz hk => ⟨(eIO, st), hw, ⟨rfl, hP.kept (fun k q hq => hk q.1 (hP k q hq).lt), hD⟩, xF hS hz hk⟩) hS.2.2 (Nat.le_of_ble_eq_true rfl) (Nat.le_of_ble_eq_true rfl)
def w_C_sample (st : CS) (post : Int64 → CS → Prop) (px : String → CS → Prop) (p0 : Int32) (p1 : Int32) (p2 : Int32) : Prop := w_C_isCell st (fun r1 => ((¬ r1 = 0 → ((p1 < 0 → (px eIA st)) ∧ (¬ p1 < 0 → ((p1 ≤ 1 → (w_C_isPart (fun r5 => ((¬ r5 = 0 → (w_C_stripOf st (fun r7 => ((¬ p1 = 0 → (vp_in r7 31 ∧ (w_C_measureHeights st (fun u10 => (vp_in r7 32 ∧ (w_K_samplePart (CS.he u10) (fun r12 => (post r12 u10)) (p0 - ((CS.fc u10) r7.toNatClampNeg)) p2))) ((CS.sa st) r7.toNatClampNeg) ((CS.sb st) r7.toNatClampNeg)))) ∧ (p1 = 0 → ((¬ p2 = 0 → (vp_in r7 31 ∧ (post ((CS.sb st) r7.toNatClampNeg) st))) ∧ (p2 = 0 → (vp_in r7 31 ∧ (post ((CS.sa st) r7.toNatClampNeg) st))))))) p0)) ∧ (r5 = 0 → (px eIA st)))) p2)) ∧ (¬ p1 ≤ 1 → (px eIA st)))))) ∧ (r1 = 0 → (px eIO st)))) p0
set_option maxHeartbeats 4000000 in
set_option maxRecDepth 100000 in
theorem t_C_sample (l : Launch) (hst : l.stackTraces = false) (dC : Nat → ClassId) (dI : Nat → Nat → Nat) (h : Nat → Nat) (k : Nat → ClassId) (sz : Nat) (st : CS) (p0 : Int32) (p1 : Int32) (p2 : Int32) {post : Int64 → CS → Prop} {px : String → CS → Prop} (hw : w_C_sample st post px p0 p1 p2) : vx_Met l y_C_sample (Cond.code y_C_sample prog_1_method_9_code 5 (some .long) :: cw) ({ frames := 6, cells := 1, slots := 6, locals := 104 } : Room) (va_Pc [.ref (h 0), .int p0, .int p1, .int p2] (pRx (dC, dI) (WC h k st) (YC k) sz)) (va_Ql post (fun u t => va_P (dC, dI) vwCl (WC h k u) t.heap ∧ va_D (va_A (WC h k st) sz) (WC h k u)) (va_A (WC h k st) sz)) (vx_X (fun z : String × CS => px z.1 z.2) (fun E z t => z.1 = E ∧ va_P (dC, dI) vwCl (WC h k z.2) t.heap ∧ va_D (va_A (WC h k st) sz) (WC h k z.2)) (va_A (WC h k st) sz)) 1 6 (va_A (WC h k st) sz) := by
  refine vx_ofW (cc := prog_1_method_9_code) (maxL := 5) (ret := (some .long)) (by decide) rfl ?_
  intro p e s m args below meth c s₁ B hml hno hv
  obtain ⟨rfl, ⟨hsz, hP, hK, hN, hD0⟩, hX, hT, hZ⟩ := hv
  have hx := B.exec
  have hb := B.bytes
  have hr := B.returns
  have hts : ∀ w ∈ cw, w.before _ s = true := fun w h => atoms_spec (ws := (Cond.code y_C_sample prog_1_method_9_code 5 (some .long) :: cw)) B.pre w (List.mem_cons_of_mem _ h)
  have hown : s.vm.findClass RC = some m.cls := findClass_of_methodNamed B.named
  have hlocks := B.notSynchronized
  have C0 : cxt p s m _ meth c prog_1_method_9_code 5 RC (some .long) := ⟨hx, hb, hr, hml, hown, hts, hlocks⟩
  subst hsz
  have hD := hD0.self (sz := s.heap.size)
  generalize hAe : va_A (WC h k st) s.heap.size = A at hD hZ ⊢
  have hA : ∀ q : Nat, s.heap.size ≤ q → A q := fun q h => by rw [← hAe]; exact Or.inr h
  have hS : va_S A s.heap s.heap [] := va_S.rf
  have hl := lv_entry ([.ref (h 0), .int p0, .int p1, .int p2]) (n := 5) (Nat.le_of_ble_eq_true rfl)
  rw [lg_entry_eq]
  generalize (lg_sl ([.ref (h 0), .int p0, .int p1, .int p2]) ++ List.replicate (5 - (lg_sl ([.ref (h 0), .int p0, .int p1, .int p2])).length) Slot.unset).toArray = ls at hl ⊢
  have hl : lv_has ls 5 [(0, .ref (h 0)), (1, .int p0), (2, .int p1), (3, .int p2)] := hl
  unfold w_C_sample at hw
  refine lv_aload_n hx hb d_C_sample_0 rfl (lv_at hl 0 rfl) ?_
  refine lv_iload_n hx hb d_C_sample_1 rfl (lv_at hl 1 rfl) ?_
  refine vp_callSi (va_Run.run (va_runV (As := [.int p0]) (rest := []) ⟨hx, hb, hml, hown, hts⟩ (t_C_isCell l dC dI h k st p0 hw) (cwV 1 hts (gV m_322 m_324 s_13 m_1 (cw_call m_325)) rfl rfl rfl (by decide +kernel) ⟨Nat.le_of_ble_eq_true rfl, Nat.le_of_ble_eq_true rfl⟩) ⟨pRo_bl, va_recv hK hP (ci := 1) (q0 := 0) rfl rfl, fun U hU hW => ⟨rfl, pRo_at hP hK hN hU hW⟩⟩ rfl rfl hl.1 rfl (lv_room (Nat.le_of_ble_eq_true rfl)) d_C_sample_2 ⟨Nat.le_of_ble_eq_true rfl, Nat.le_of_ble_eq_true rfl⟩)) (fun r1 hw => ?_)
  refine lv_if_ne (tgt := 18) hx hb d_C_sample_5 (by decide) (fun c2 => ?_) (fun c2 => ?_)
  · skip
    have hw := hw.1 c2
    refine lv_iload_n hx hb d_C_sample_18 rfl (lv_at hl 2 rfl) ?_
    refine lv_if_lt (tgt := 27) hx hb d_C_sample_19 (by decide) (fun c3 => ?_) (fun c3 => ?_)
    · skip
      have hw := hw.1 c3
      obtain ⟨sa, hsa⟩ := hT (111, "a letter is 0 or 1") (by decide +kernel)
      exact vx_throwS (own := RC) (cls := eIA) (text := "a letter is 0 or 1") (names := eUp) (ik := 55) (is := 111) (ic := 59) (sa := sa) (A := A) hx hb hst hown (by decide +kernel) f_up (hts _ m_182) (hts _ m_9) hsa (fun w h => (x_IA w h).elim (hts w) (fun q => hX.use q)) o_IA hZ.1 hZ.2 hS (hl.1.trans hml.symm) d_C_sample_27 d_C_sample_30 d_C_sample_31 d_C_sample_33 d_C_sample_36 (fun x hx => (hno x hx).elim) (Nat.le_of_ble_eq_true rfl) (Nat.le_of_ble_eq_true rfl) (Nat.le_of_ble_eq_true rfl) (Nat.le_of_ble_eq_true rfl) hlocks (fun t ha hz hk => ⟨(eIA, st), hw, ⟨rfl, hP.kept (fun k q hq => hk q.1 (hP k q hq).lt), hD⟩, xF hS hz hk⟩) hS.2.2 (Nat.le_of_ble_eq_true rfl) (Nat.le_of_ble_eq_true rfl)
    · skip
      have hw := hw.2 c3
      refine lv_iload_n hx hb d_C_sample_22 rfl (lv_at hl 2 rfl) ?_
      refine lv_iconst (v := 1) hx hb d_C_sample_23 (by decide) ?_
      refine lv_icmp_le (tgt := 37) hx hb d_C_sample_24 (by decide) (fun c4 => ?_) (fun c4 => ?_)
      · skip
        have hw := hw.1 c4
        refine lv_iload_n hx hb d_C_sample_37 rfl (lv_at hl 3 rfl) ?_
        refine vp_callSi (va_Run.run (va_runS (As := [.int p2]) (rest := []) ⟨hx, hb, hml, hown, hts⟩ (t_C_isPart l p2 hw) (va_cwS 1 hts (gS m_303 m_304 m_1 (cw_call m_305)) rfl rfl rfl (by decide +kernel) ⟨Nat.le_of_ble_eq_true rfl, Nat.le_of_ble_eq_true rfl⟩) ⟨pSt_bl, fun U hU hW => ⟨rfl, trivial⟩⟩ rfl rfl hl.1 rfl (lv_room (Nat.le_of_ble_eq_true rfl)) d_C_sample_38 ⟨Nat.le_of_ble_eq_true rfl, Nat.le_of_ble_eq_true rfl⟩)) (fun r5 hw => ?_)
        refine lv_if_ne (tgt := 54) hx hb d_C_sample_41 (by decide) (fun c6 => ?_) (fun c6 => ?_)
        · skip
          have hw := hw.1 c6
          refine lv_aload_n hx hb d_C_sample_54 rfl (lv_at hl 0 rfl) ?_
          refine lv_iload_n hx hb d_C_sample_55 rfl (lv_at hl 1 rfl) ?_
          refine vp_callSi (va_Run.run (va_runV (As := [.int p0]) (rest := []) ⟨hx, hb, hml, hown, hts⟩ (t_C_stripOf l dC dI h k st p0 hw) (cwV 1 hts (gV m_327 m_329 s_14 m_1 (cw_call m_330)) rfl rfl rfl (by decide +kernel) ⟨Nat.le_of_ble_eq_true rfl, Nat.le_of_ble_eq_true rfl⟩) ⟨pRo_bl, va_recv hK hP (ci := 1) (q0 := 0) rfl rfl, fun U hU hW => ⟨rfl, pRo_at hP hK hN hU hW⟩⟩ rfl rfl hl.1 rfl (lv_room (Nat.le_of_ble_eq_true rfl)) d_C_sample_56 ⟨Nat.le_of_ble_eq_true rfl, Nat.le_of_ble_eq_true rfl⟩)) (fun r7 hw => ?_)
          refine lv_istore (lv' := [(4, .int r7), (0, .ref (h 0)), (1, .int p0), (2, .int p1), (3, .int p2)]) hx hb d_C_sample_59 hl (by decide) rfl (fun ls hl => ?_)
          refine lv_iload_n hx hb d_C_sample_61 rfl (lv_at hl 3 rfl) ?_
          refine lv_if_ne (tgt := 87) hx hb d_C_sample_62 (by decide) (fun c8 => ?_) (fun c8 => ?_)
          · skip
            have hw := hw.1 c8
            refine lv_aload_n hx hb d_C_sample_87 rfl (lv_at hl 1 rfl) ?_
            refine lv_aload_n hx hb d_C_sample_88 rfl (lv_at hl 1 rfl) ?_
            refine va_get (D := (dC, dI)) (ci := 1) (v := .ref (h 10)) (C := RC) (T := TC) (N := 10) hx hb hts i_C hown hK hP 0 rfl rfl 6 (by decide) (hts _ m_111) (fun _ h9 => h9) rfl d_C_sample_89 ?_
            refine lv_iload hx hb d_C_sample_92 (lv_at hl 0 rfl) ?_
            obtain ⟨h9, hw⟩ := hw
            refine va_lald hx hb hK hP 10 7 rfl rfl h9 d_C_sample_94 ?_
            refine lv_aload_n hx hb d_C_sample_95 rfl (lv_at hl 1 rfl) ?_
            refine va_get (D := (dC, dI)) (ci := 1) (v := .ref (h 11)) (C := RC) (T := TC) (N := 10) hx hb hts i_C hown hK hP 0 rfl rfl 7 (by decide) (hts _ m_112) (fun _ h9 => h9) rfl d_C_sample_96 ?_
            refine lv_iload hx hb d_C_sample_99 (lv_at hl 0 rfl) ?_
            refine va_lald hx hb hK hP 11 8 rfl rfl h9 d_C_sample_101 ?_
            have hFc := va_freeA hD hS hA
            refine va_callv (va_runV (As := [.long ((CS.sa st) r7.toNatClampNeg), .long ((CS.sb st) r7.toNatClampNeg)]) (rest := []) ⟨hx, hb, hml, hown, hts⟩ (t_C_measureHeights l dC dI h k _ st ((CS.sa st) r7.toNatClampNeg) ((CS.sb st) r7.toNatClampNeg) hw) (cwV 2 hts (gV m_89 m_91 s_5 m_1 (cw_call m_92)) rfl rfl rfl (by decide +kernel) ⟨Nat.le_of_ble_eq_true rfl, Nat.le_of_ble_eq_true rfl⟩) ⟨pRw_bl, va_recv hK hP (ci := 1) (q0 := 0) rfl rfl, fun U hU hW => ⟨rfl, pRw_at hP hK hN hD hU hW⟩⟩ rfl rfl hl.1 rfl (lv_room (Nat.le_of_ble_eq_true rfl)) d_C_sample_102 ⟨Nat.le_of_ble_eq_true rfl, Nat.le_of_ble_eq_true rfl⟩) hS (fun q _ h => hFc q h) hFc (fun u10 t H1 locs ht hvm hw hB hz1 hk1 hS => ?_)
            obtain ⟨hP1, hD1⟩ := hB
            rw [ht] at hP1
            have hP := hP1
            have hD := hD1.weaken (fun _ q _ h => hFc q.1 h)
            generalize H1 = H at hP hS ⊢
            have hP : va_P (dC, dI) vwCl (WC h k u10) H := hP
            have hD : va_D A (WC h k u10) := hD
            refine lv_aload_n hx hb d_C_sample_105 rfl (lv_at hl 1 rfl) ?_
            refine va_get (D := (dC, dI)) (ci := 1) (v := .ref (h 7)) (C := RC) (T := TC) (N := 10) hx hb hts i_C hown hK hP 0 rfl rfl 5 (by decide) (hts _ m_110) (fun _ h9 => h9) rfl d_C_sample_106 ?_
            refine lv_iload_n hx hb d_C_sample_109 rfl (lv_at hl 2 rfl) ?_
            refine lv_aload_n hx hb d_C_sample_110 rfl (lv_at hl 1 rfl) ?_
            refine va_get (D := (dC, dI)) (ci := 1) (v := .ref (h 13)) (C := RC) (T := TC) (N := 10) hx hb hts i_C hown hK hP 0 rfl rfl 9 (by decide) (hts _ m_114) (fun _ h9 => h9) rfl d_C_sample_111 ?_
            refine lv_iload hx hb d_C_sample_114 (lv_at hl 0 rfl) ?_
            obtain ⟨h11, hw⟩ := hw
            refine va_iald hx hb hK hP 13 10 rfl rfl h11 d_C_sample_116 ?_
            refine lv_isub hx hb d_C_sample_117 ?_
            refine lv_iload_n hx hb d_C_sample_118 rfl (lv_at hl 4 rfl) ?_
            have hPc := hP.sub (ws' := WK (fun i => h (7 + i)) (fun i => k (7 + i)) (CS.he u10)) [7, 8, 9] rfl
            have hKc := hK.sub (tys' := YK (fun i => k (7 + i))) [5, 6] rfl
            refine vp_callSl (va_Run.run (va_runV (As := [.int (p0 - ((CS.fc u10) r7.toNatClampNeg)), .int p2]) (rest := []) ⟨hx, hb, hml, hown, hts⟩ (t_K_samplePart l dC dI (fun i => h (7 + i)) (fun i => k (7 + i)) (CS.he u10) (p0 - ((CS.fc u10) r7.toNatClampNeg)) p2 hw) (cwV 2 hts (gV m_72 m_73 m_74 m_2 (cw_call m_75)) rfl rfl rfl (by decide +kernel) ⟨Nat.le_of_ble_eq_true rfl, Nat.le_of_ble_eq_true rfl⟩) ⟨pRo_bl, va_recv hKc hPc (ci := 0) (q0 := 0) rfl rfl, fun U hU hW => ⟨rfl, pRo_at hPc hKc hN hU hW⟩⟩ rfl rfl hl.1 rfl (lv_room (Nat.le_of_ble_eq_true rfl)) d_C_sample_119 ⟨Nat.le_of_ble_eq_true rfl, Nat.le_of_ble_eq_true rfl⟩)) (fun r12 hw => ?_)
            refine vx_ret ?_
            refine W.widen (k := 1) (n := 6) (Nat.le_of_ble_eq_true rfl) (Nat.le_of_ble_eq_true rfl) ?_
            exact W.lret (v := r12) hx hb hr (fun t ht hW => ⟨⟨r12, u10, rfl, hw, by rw [ht]; exact hP, hD⟩, hS.F ht⟩) hS.2.2 d_C_sample_122
          · skip
            have hw := hw.2 c8
            refine lv_iload_n hx hb d_C_sample_65 rfl (lv_at hl 4 rfl) ?_
            refine lv_if_ne (tgt := 79) hx hb d_C_sample_66 (by decide) (fun c13 => ?_) (fun c13 => ?_)
            · skip
              have hw := hw.1 c13
              refine lv_aload_n hx hb d_C_sample_79 rfl (lv_at hl 1 rfl) ?_
              refine va_get (D := (dC, dI)) (ci := 1) (v := .ref (h 11)) (C := RC) (T := TC) (N := 10) hx hb hts i_C hown hK hP 0 rfl rfl 7 (by decide) (hts _ m_112) (fun _ h9 => h9) rfl d_C_sample_80 ?_
              refine lv_iload hx hb d_C_sample_83 (lv_at hl 0 rfl) ?_
              obtain ⟨h14, hw⟩ := hw
              refine va_lald hx hb hK hP 11 8 rfl rfl h14 d_C_sample_85 ?_
              refine vx_ret ?_
              refine W.widen (k := 1) (n := 6) (Nat.le_of_ble_eq_true rfl) (Nat.le_of_ble_eq_true rfl) ?_
              exact W.lret (v := ((CS.sb st) r7.toNatClampNeg)) hx hb hr (fun t ht hW => ⟨⟨((CS.sb st) r7.toNatClampNeg), st, rfl, hw, by rw [ht]; exact hP, hD⟩, hS.F ht⟩) hS.2.2 d_C_sample_86
            · skip
              have hw := hw.2 c13
              refine lv_aload_n hx hb d_C_sample_69 rfl (lv_at hl 1 rfl) ?_
              refine va_get (D := (dC, dI)) (ci := 1) (v := .ref (h 10)) (C := RC) (T := TC) (N := 10) hx hb hts i_C hown hK hP 0 rfl rfl 6 (by decide) (hts _ m_111) (fun _ h9 => h9) rfl d_C_sample_70 ?_
              refine lv_iload hx hb d_C_sample_73 (lv_at hl 0 rfl) ?_
              obtain ⟨h15, hw⟩ := hw
              refine va_lald hx hb hK hP 10 7 rfl rfl h15 d_C_sample_75 ?_
              refine lv_goto (tgt := 86) hx hb d_C_sample_76 (by decide) ?_
              refine vx_ret ?_
              refine W.widen (k := 1) (n := 6) (Nat.le_of_ble_eq_true rfl) (Nat.le_of_ble_eq_true rfl) ?_
              exact W.lret (v := ((CS.sa st) r7.toNatClampNeg)) hx hb hr (fun t ht hW => ⟨⟨((CS.sa st) r7.toNatClampNeg), st, rfl, hw, by rw [ht]; exact hP, hD⟩, hS.F ht⟩) hS.2.2 d_C_sample_86
        · skip
          have hw := hw.2 c6
          obtain ⟨sa, hsa⟩ := hT (85, "a part is 0 or 1") (by decide +kernel)
          exact vx_throwS (own := RC) (cls := eIA) (text := "a part is 0 or 1") (names := eUp) (ik := 55) (is := 85) (ic := 59) (sa := sa) (A := A) hx hb hst hown (by decide +kernel) f_up (hts _ m_182) (hts _ m_9) hsa (fun w h => (x_IA w h).elim (hts w) (fun q => hX.use q)) o_IA hZ.1 hZ.2 hS (hl.1.trans hml.symm) d_C_sample_44 d_C_sample_47 d_C_sample_48 d_C_sample_50 d_C_sample_53 (fun x hx => (hno x hx).elim) (Nat.le_of_ble_eq_true rfl) (Nat.le_of_ble_eq_true rfl) (Nat.le_of_ble_eq_true rfl) (Nat.le_of_ble_eq_true rfl) hlocks (fun t ha hz hk => ⟨(eIA, st), hw, ⟨rfl, hP.kept (fun k q hq => hk q.1 (hP k q hq).lt), hD⟩, xF hS hz hk⟩) hS.2.2 (Nat.le_of_ble_eq_true rfl) (Nat.le_of_ble_eq_true rfl)
      · skip
        have hw := hw.2 c4
        obtain ⟨sa, hsa⟩ := hT (111, "a letter is 0 or 1") (by decide +kernel)
        exact vx_throwS (own := RC) (cls := eIA) (text := "a letter is 0 or 1") (names := eUp) (ik := 55) (is := 111) (ic := 59) (sa := sa) (A := A) hx hb hst hown (by decide +kernel) f_up (hts _ m_182) (hts _ m_9) hsa (fun w h => (x_IA w h).elim (hts w) (fun q => hX.use q)) o_IA hZ.1 hZ.2 hS (hl.1.trans hml.symm) d_C_sample_27 d_C_sample_30 d_C_sample_31 d_C_sample_33 d_C_sample_36 (fun x hx => (hno x hx).elim) (Nat.le_of_ble_eq_true rfl) (Nat.le_of_ble_eq_true rfl) (Nat.le_of_ble_eq_true rfl) (Nat.le_of_ble_eq_true rfl) hlocks (fun t ha hz hk => ⟨(eIA, st), hw, ⟨rfl, hP.kept (fun k q hq => hk q.1 (hP k q hq).lt), hD⟩, xF hS hz hk⟩) hS.2.2 (Nat.le_of_ble_eq_true rfl) (Nat.le_of_ble_eq_true rfl)
  · skip
    have hw := hw.2 c2
    obtain ⟨sa, hsa⟩ := hT (104, "no such cell") (by decide +kernel)
    exact vx_throwS (own := RC) (cls := eIO) (text := "no such cell") (names := eUp) (ik := 72) (is := 104) (ic := 76) (sa := sa) (A := A) hx hb hst hown (by decide +kernel) f_up (hts _ m_279) (hts _ m_11) hsa (fun w h => (x_IO w h).elim (hts w) (fun q => hX.use q)) o_IO hZ.1 hZ.2 hS (hl.1.trans hml.symm) d_C_sample_8 d_C_sample_11 d_C_sample_12 d_C_sample_14 d_C_sample_17 (fun x hx => (hno x hx).elim) (Nat.le_of_ble_eq_true rfl) (Nat.le_of_ble_eq_true rfl) (Nat.le_of_ble_eq_true rfl) (Nat.le_of_ble_eq_true rfl) hlocks (fun t ha hz hk => ⟨(eIO, st), hw, ⟨rfl, hP.kept (fun k q hq => hk q.1 (hP k q hq).lt), hD⟩, xF hS hz hk⟩) hS.2.2 (Nat.le_of_ble_eq_true rfl) (Nat.le_of_ble_eq_true rfl)
def w_C_sign (st : CS) (post : Int32 → CS → Prop) (px : String → CS → Prop) (p0 : Int32) (p1 : Int32) : Prop := w_C_isCell st (fun r1 => ((¬ r1 = 0 → (w_C_isLine st (fun r3 => ((¬ r3 = 0 → (w_C_stripOf st (fun r5 => (vp_in r5 32 ∧ (w_C_signIn st (fun r7 => (post r7 st)) r5 (p0 - ((CS.fc st) r5.toNatClampNeg)) p1))) p0)) ∧ (r3 = 0 → (px eIO st)))) p1)) ∧ (r1 = 0 → (px eIO st)))) p0
set_option maxHeartbeats 4000000 in
set_option maxRecDepth 100000 in
theorem t_C_sign (l : Launch) (hst : l.stackTraces = false) (dC : Nat → ClassId) (dI : Nat → Nat → Nat) (h : Nat → Nat) (k : Nat → ClassId) (sz : Nat) (st : CS) (p0 : Int32) (p1 : Int32) {post : Int32 → CS → Prop} {px : String → CS → Prop} (hw : w_C_sign st post px p0 p1) : vx_Met l y_C_sign (Cond.code y_C_sign prog_1_method_10_code 4 (some .int) :: cw) ({ frames := 6, cells := 1, slots := 6, locals := 82 } : Room) (va_Pc [.ref (h 0), .int p0, .int p1] (pRx (dC, dI) (WC h k st) (YC k) sz)) (va_Qi post (fun u t => va_P (dC, dI) vwCl (WC h k u) t.heap ∧ va_D (va_A (WC h k st) sz) (WC h k u)) (va_A (WC h k st) sz)) (vx_X (fun z : String × CS => px z.1 z.2) (fun E z t => z.1 = E ∧ va_P (dC, dI) vwCl (WC h k z.2) t.heap ∧ va_D (va_A (WC h k st) sz) (WC h k z.2)) (va_A (WC h k st) sz)) 1 6 (va_A (WC h k st) sz) := by
  refine vx_ofW (cc := prog_1_method_10_code) (maxL := 4) (ret := (some .int)) (by decide) rfl ?_
  intro p e s m args below meth c s₁ B hml hno hv
  obtain ⟨rfl, ⟨hsz, hP, hK, hN, hD0⟩, hX, hT, hZ⟩ := hv
  have hx := B.exec
  have hb := B.bytes
  have hr := B.returns
  have hts : ∀ w ∈ cw, w.before _ s = true := fun w h => atoms_spec (ws := (Cond.code y_C_sign prog_1_method_10_code 4 (some .int) :: cw)) B.pre w (List.mem_cons_of_mem _ h)
  have hown : s.vm.findClass RC = some m.cls := findClass_of_methodNamed B.named
  have hlocks := B.notSynchronized
  have C0 : cxt p s m _ meth c prog_1_method_10_code 4 RC (some .int) := ⟨hx, hb, hr, hml, hown, hts, hlocks⟩
  subst hsz
  have hD := hD0.self (sz := s.heap.size)
  generalize hAe : va_A (WC h k st) s.heap.size = A at hD hZ ⊢
  have hA : ∀ q : Nat, s.heap.size ≤ q → A q := fun q h => by rw [← hAe]; exact Or.inr h
  have hS : va_S A s.heap s.heap [] := va_S.rf
  have hl := lv_entry ([.ref (h 0), .int p0, .int p1]) (n := 4) (Nat.le_of_ble_eq_true rfl)
  rw [lg_entry_eq]
  generalize (lg_sl ([.ref (h 0), .int p0, .int p1]) ++ List.replicate (4 - (lg_sl ([.ref (h 0), .int p0, .int p1])).length) Slot.unset).toArray = ls at hl ⊢
  have hl : lv_has ls 4 [(0, .ref (h 0)), (1, .int p0), (2, .int p1)] := hl
  unfold w_C_sign at hw
  refine lv_aload_n hx hb d_C_sign_0 rfl (lv_at hl 0 rfl) ?_
  refine lv_iload_n hx hb d_C_sign_1 rfl (lv_at hl 1 rfl) ?_
  refine vp_callSi (va_Run.run (va_runV (As := [.int p0]) (rest := []) ⟨hx, hb, hml, hown, hts⟩ (t_C_isCell l dC dI h k st p0 hw) (cwV 1 hts (gV m_322 m_324 s_13 m_1 (cw_call m_325)) rfl rfl rfl (by decide +kernel) ⟨Nat.le_of_ble_eq_true rfl, Nat.le_of_ble_eq_true rfl⟩) ⟨pRo_bl, va_recv hK hP (ci := 1) (q0 := 0) rfl rfl, fun U hU hW => ⟨rfl, pRo_at hP hK hN hU hW⟩⟩ rfl rfl hl.1 rfl (lv_room (Nat.le_of_ble_eq_true rfl)) d_C_sign_2 ⟨Nat.le_of_ble_eq_true rfl, Nat.le_of_ble_eq_true rfl⟩)) (fun r1 hw => ?_)
  refine lv_if_ne (tgt := 18) hx hb d_C_sign_5 (by decide) (fun c2 => ?_) (fun c2 => ?_)
  · skip
    have hw := hw.1 c2
    refine lv_aload_n hx hb d_C_sign_18 rfl (lv_at hl 0 rfl) ?_
    refine lv_iload_n hx hb d_C_sign_19 rfl (lv_at hl 2 rfl) ?_
    refine vp_callSi (va_Run.run (va_runV (As := [.int p1]) (rest := []) ⟨hx, hb, hml, hown, hts⟩ (t_C_isLine l dC dI h k st p1 hw) (cwV 1 hts (gV m_275 m_277 s_12 m_1 (cw_call m_278)) rfl rfl rfl (by decide +kernel) ⟨Nat.le_of_ble_eq_true rfl, Nat.le_of_ble_eq_true rfl⟩) ⟨pRo_bl, va_recv hK hP (ci := 1) (q0 := 0) rfl rfl, fun U hU hW => ⟨rfl, pRo_at hP hK hN hU hW⟩⟩ rfl rfl hl.1 rfl (lv_room (Nat.le_of_ble_eq_true rfl)) d_C_sign_20 ⟨Nat.le_of_ble_eq_true rfl, Nat.le_of_ble_eq_true rfl⟩)) (fun r3 hw => ?_)
    refine lv_if_ne (tgt := 36) hx hb d_C_sign_23 (by decide) (fun c4 => ?_) (fun c4 => ?_)
    · skip
      have hw := hw.1 c4
      refine lv_aload_n hx hb d_C_sign_36 rfl (lv_at hl 0 rfl) ?_
      refine lv_iload_n hx hb d_C_sign_37 rfl (lv_at hl 1 rfl) ?_
      refine vp_callSi (va_Run.run (va_runV (As := [.int p0]) (rest := []) ⟨hx, hb, hml, hown, hts⟩ (t_C_stripOf l dC dI h k st p0 hw) (cwV 1 hts (gV m_327 m_329 s_14 m_1 (cw_call m_330)) rfl rfl rfl (by decide +kernel) ⟨Nat.le_of_ble_eq_true rfl, Nat.le_of_ble_eq_true rfl⟩) ⟨pRo_bl, va_recv hK hP (ci := 1) (q0 := 0) rfl rfl, fun U hU hW => ⟨rfl, pRo_at hP hK hN hU hW⟩⟩ rfl rfl hl.1 rfl (lv_room (Nat.le_of_ble_eq_true rfl)) d_C_sign_38 ⟨Nat.le_of_ble_eq_true rfl, Nat.le_of_ble_eq_true rfl⟩)) (fun r5 hw => ?_)
      refine lv_istore_n (lv' := [(3, .int r5), (0, .ref (h 0)), (1, .int p0), (2, .int p1)]) hx hb d_C_sign_41 rfl hl (by decide) rfl (fun ls hl => ?_)
      refine lv_aload_n hx hb d_C_sign_42 rfl (lv_at hl 1 rfl) ?_
      refine lv_iload_n hx hb d_C_sign_43 rfl (lv_at hl 0 rfl) ?_
      refine lv_iload_n hx hb d_C_sign_44 rfl (lv_at hl 2 rfl) ?_
      refine lv_aload_n hx hb d_C_sign_45 rfl (lv_at hl 1 rfl) ?_
      refine va_get (D := (dC, dI)) (ci := 1) (v := .ref (h 13)) (C := RC) (T := TC) (N := 10) hx hb hts i_C hown hK hP 0 rfl rfl 9 (by decide) (hts _ m_114) (fun _ h9 => h9) rfl d_C_sign_46 ?_
      refine lv_iload_n hx hb d_C_sign_49 rfl (lv_at hl 0 rfl) ?_
      obtain ⟨h6, hw⟩ := hw
      refine va_iald hx hb hK hP 13 10 rfl rfl h6 d_C_sign_50 ?_
      refine lv_isub hx hb d_C_sign_51 ?_
      refine lv_iload_n hx hb d_C_sign_52 rfl (lv_at hl 3 rfl) ?_
      refine vp_callSi (va_Run.run (va_runV (As := [.int r5, .int (p0 - ((CS.fc st) r5.toNatClampNeg)), .int p1]) (rest := []) ⟨hx, hb, hml, hown, hts⟩ (t_C_signIn l dC dI h k st r5 (p0 - ((CS.fc st) r5.toNatClampNeg)) p1 hw) (cwV 3 hts (gV m_156 m_158 s_10 m_1 (cw_call m_159)) rfl rfl rfl (by decide +kernel) ⟨Nat.le_of_ble_eq_true rfl, Nat.le_of_ble_eq_true rfl⟩) ⟨pRo_bl, va_recv hK hP (ci := 1) (q0 := 0) rfl rfl, fun U hU hW => ⟨rfl, pRo_at hP hK hN hU hW⟩⟩ rfl rfl hl.1 rfl (lv_room (Nat.le_of_ble_eq_true rfl)) d_C_sign_53 ⟨Nat.le_of_ble_eq_true rfl, Nat.le_of_ble_eq_true rfl⟩)) (fun r7 hw => ?_)
      refine vx_ret ?_
      refine W.widen (k := 1) (n := 6) (Nat.le_of_ble_eq_true rfl) (Nat.le_of_ble_eq_true rfl) ?_
      exact W.iret (v := r7) hx hb hr (fun t ht hW => ⟨⟨r7, st, rfl, hw, by rw [ht]; exact hP, hD⟩, hS.F ht⟩) hS.2.2 d_C_sign_56
    · skip
      have hw := hw.2 c4
      obtain ⟨sa, hsa⟩ := hT (74, "no such line") (by decide +kernel)
      exact vx_throwS (own := RC) (cls := eIO) (text := "no such line") (names := eUp) (ik := 72) (is := 74) (ic := 76) (sa := sa) (A := A) hx hb hst hown (by decide +kernel) f_up (hts _ m_279) (hts _ m_11) hsa (fun w h => (x_IO w h).elim (hts w) (fun q => hX.use q)) o_IO hZ.1 hZ.2 hS (hl.1.trans hml.symm) d_C_sign_26 d_C_sign_29 d_C_sign_30 d_C_sign_32 d_C_sign_35 (fun x hx => (hno x hx).elim) (Nat.le_of_ble_eq_true rfl) (Nat.le_of_ble_eq_true rfl) (Nat.le_of_ble_eq_true rfl) (Nat.le_of_ble_eq_true rfl) hlocks (fun t ha hz hk => ⟨(eIO, st), hw, ⟨rfl, hP.kept (fun k q hq => hk q.1 (hP k q hq).lt), hD⟩, xF hS hz hk⟩) hS.2.2 (Nat.le_of_ble_eq_true rfl) (Nat.le_of_ble_eq_true rfl)
  · skip
    have hw := hw.2 c2
    obtain ⟨sa, hsa⟩ := hT (104, "no such cell") (by decide +kernel)
    exact vx_throwS (own := RC) (cls := eIO) (text := "no such cell") (names := eUp) (ik := 72) (is := 104) (ic := 76) (sa := sa) (A := A) hx hb hst hown (by decide +kernel) f_up (hts _ m_279) (hts _ m_11) hsa (fun w h => (x_IO w h).elim (hts w) (fun q => hX.use q)) o_IO hZ.1 hZ.2 hS (hl.1.trans hml.symm) d_C_sign_8 d_C_sign_11 d_C_sign_12 d_C_sign_14 d_C_sign_17 (fun x hx => (hno x hx).elim) (Nat.le_of_ble_eq_true rfl) (Nat.le_of_ble_eq_true rfl) (Nat.le_of_ble_eq_true rfl) (Nat.le_of_ble_eq_true rfl) hlocks (fun t ha hz hk => ⟨(eIO, st), hw, ⟨rfl, hP.kept (fun k q hq => hk q.1 (hP k q hq).lt), hD⟩, xF hS hz hk⟩) hS.2.2 (Nat.le_of_ble_eq_true rfl) (Nat.le_of_ble_eq_true rfl)
def w_C_at (st : CS) (post : Int32 → CS → Prop) (px : String → CS → Prop) (p0 : Int32) (p1 : Int32) (p2 : Int32) (p3 : Int32) : Prop := w_C_isNear (fun r1 => ((r1 = 0 → (px eIA st)) ∧ (¬ r1 = 0 → (w_C_isNear (fun r3 => ((r3 = 0 → (px eIA st)) ∧ (¬ r3 = 0 → (w_C_isNear (fun r5 => ((r5 = 0 → (px eIA st)) ∧ (¬ r5 = 0 → (w_C_isNear (fun r7 => ((¬ r7 = 0 → ((p1 < 1 → (px eIA st)) ∧ (¬ p1 < 1 → ((1 ≤ p3 → (w_C_measureHeights st (fun u11 => (w_K_pieceOf (CS.cu u11) (fun r12 => (vp_in r12 32 ∧ (w_K_pieceOf (CS.he u11) (fun r14 => (post (((CS.fc u11) r12.toNatClampNeg) + r14) u11)) p2.toInt64 p3.toInt64))) p0.toInt64 p1.toInt64)) p0.toInt64 p1.toInt64)) ∧ (¬ 1 ≤ p3 → (px eIA st)))))) ∧ (r7 = 0 → (px eIA st)))) p3)))) p2)))) p1)))) p0
set_option maxHeartbeats 4000000 in
set_option maxRecDepth 100000 in
theorem t_C_at (l : Launch) (hst : l.stackTraces = false) (dC : Nat → ClassId) (dI : Nat → Nat → Nat) (h : Nat → Nat) (k : Nat → ClassId) (sz : Nat) (st : CS) (p0 : Int32) (p1 : Int32) (p2 : Int32) (p3 : Int32) {post : Int32 → CS → Prop} {px : String → CS → Prop} (hw : w_C_at st post px p0 p1 p2 p3) : vx_Met l y_C_at (Cond.code y_C_at prog_1_method_11_code 5 (some .int) :: cw) ({ frames := 6, cells := 1, slots := 6, locals := 101 } : Room) (va_Pc [.ref (h 0), .int p0, .int p1, .int p2, .int p3] (pRx (dC, dI) (WC h k st) (YC k) sz)) (va_Qi post (fun u t => va_P (dC, dI) vwCl (WC h k u) t.heap ∧ va_D (va_A (WC h k st) sz) (WC h k u)) (va_A (WC h k st) sz)) (vx_X (fun z : String × CS => px z.1 z.2) (fun E z t => z.1 = E ∧ va_P (dC, dI) vwCl (WC h k z.2) t.heap ∧ va_D (va_A (WC h k st) sz) (WC h k z.2)) (va_A (WC h k st) sz)) 1 6 (va_A (WC h k st) sz) := by
  refine vx_ofW (cc := prog_1_method_11_code) (maxL := 5) (ret := (some .int)) (by decide) rfl ?_
  intro p e s m args below meth c s₁ B hml hno hv
  obtain ⟨rfl, ⟨hsz, hP, hK, hN, hD0⟩, hX, hT, hZ⟩ := hv
  have hx := B.exec
  have hb := B.bytes
  have hr := B.returns
  have hts : ∀ w ∈ cw, w.before _ s = true := fun w h => atoms_spec (ws := (Cond.code y_C_at prog_1_method_11_code 5 (some .int) :: cw)) B.pre w (List.mem_cons_of_mem _ h)
  have hown : s.vm.findClass RC = some m.cls := findClass_of_methodNamed B.named
  have hlocks := B.notSynchronized
  have C0 : cxt p s m _ meth c prog_1_method_11_code 5 RC (some .int) := ⟨hx, hb, hr, hml, hown, hts, hlocks⟩
  subst hsz
  have hD := hD0.self (sz := s.heap.size)
  generalize hAe : va_A (WC h k st) s.heap.size = A at hD hZ ⊢
  have hA : ∀ q : Nat, s.heap.size ≤ q → A q := fun q h => by rw [← hAe]; exact Or.inr h
  have hS : va_S A s.heap s.heap [] := va_S.rf
  have hl := lv_entry ([.ref (h 0), .int p0, .int p1, .int p2, .int p3]) (n := 5) (Nat.le_of_ble_eq_true rfl)
  rw [lg_entry_eq]
  generalize (lg_sl ([.ref (h 0), .int p0, .int p1, .int p2, .int p3]) ++ List.replicate (5 - (lg_sl ([.ref (h 0), .int p0, .int p1, .int p2, .int p3])).length) Slot.unset).toArray = ls at hl ⊢
  have hl : lv_has ls 5 [(0, .ref (h 0)), (1, .int p0), (2, .int p1), (3, .int p2), (4, .int p3)] := hl
  unfold w_C_at at hw
  refine lv_iload_n hx hb d_C_at_0 rfl (lv_at hl 1 rfl) ?_
  refine vp_callSi (va_Run.run (va_runS (As := [.int p0]) (rest := []) ⟨hx, hb, hml, hown, hts⟩ (t_C_isNear l p0 hw) (va_cwS 1 hts (gS m_354 m_355 m_1 (cw_call m_356)) rfl rfl rfl (by decide +kernel) ⟨Nat.le_of_ble_eq_true rfl, Nat.le_of_ble_eq_true rfl⟩) ⟨pSt_bl, fun U hU hW => ⟨rfl, trivial⟩⟩ rfl rfl hl.1 rfl (lv_room (Nat.le_of_ble_eq_true rfl)) d_C_at_1 ⟨Nat.le_of_ble_eq_true rfl, Nat.le_of_ble_eq_true rfl⟩)) (fun r1 hw => ?_)
  refine lv_if_eq (tgt := 29) hx hb d_C_at_4 (by decide) (fun c2 => ?_) (fun c2 => ?_)
  · skip
    have hw := hw.1 c2
    obtain ⟨sa, hsa⟩ := hT (124, "a number of a point is not -100 .. 100") (by decide +kernel)
    exact vx_throwS (own := RC) (cls := eIA) (text := "a number of a point is not -100 .. 100") (names := eUp) (ik := 55) (is := 124) (ic := 59) (sa := sa) (A := A) hx hb hst hown (by decide +kernel) f_up (hts _ m_182) (hts _ m_9) hsa (fun w h => (x_IA w h).elim (hts w) (fun q => hX.use q)) o_IA hZ.1 hZ.2 hS (hl.1.trans hml.symm) d_C_at_29 d_C_at_32 d_C_at_33 d_C_at_35 d_C_at_38 (fun x hx => (hno x hx).elim) (Nat.le_of_ble_eq_true rfl) (Nat.le_of_ble_eq_true rfl) (Nat.le_of_ble_eq_true rfl) (Nat.le_of_ble_eq_true rfl) hlocks (fun t ha hz hk => ⟨(eIA, st), hw, ⟨rfl, hP.kept (fun k q hq => hk q.1 (hP k q hq).lt), hD⟩, xF hS hz hk⟩) hS.2.2 (Nat.le_of_ble_eq_true rfl) (Nat.le_of_ble_eq_true rfl)
  · skip
    have hw := hw.2 c2
    refine lv_iload_n hx hb d_C_at_7 rfl (lv_at hl 2 rfl) ?_
    refine vp_callSi (va_Run.run (va_runS (As := [.int p1]) (rest := []) ⟨hx, hb, hml, hown, hts⟩ (t_C_isNear l p1 hw) (va_cwS 1 hts (gS m_354 m_355 m_1 (cw_call m_356)) rfl rfl rfl (by decide +kernel) ⟨Nat.le_of_ble_eq_true rfl, Nat.le_of_ble_eq_true rfl⟩) ⟨pSt_bl, fun U hU hW => ⟨rfl, trivial⟩⟩ rfl rfl hl.1 rfl (lv_room (Nat.le_of_ble_eq_true rfl)) d_C_at_8 ⟨Nat.le_of_ble_eq_true rfl, Nat.le_of_ble_eq_true rfl⟩)) (fun r3 hw => ?_)
    refine lv_if_eq (tgt := 29) hx hb d_C_at_11 (by decide) (fun c4 => ?_) (fun c4 => ?_)
    · skip
      have hw := hw.1 c4
      obtain ⟨sa, hsa⟩ := hT (124, "a number of a point is not -100 .. 100") (by decide +kernel)
      exact vx_throwS (own := RC) (cls := eIA) (text := "a number of a point is not -100 .. 100") (names := eUp) (ik := 55) (is := 124) (ic := 59) (sa := sa) (A := A) hx hb hst hown (by decide +kernel) f_up (hts _ m_182) (hts _ m_9) hsa (fun w h => (x_IA w h).elim (hts w) (fun q => hX.use q)) o_IA hZ.1 hZ.2 hS (hl.1.trans hml.symm) d_C_at_29 d_C_at_32 d_C_at_33 d_C_at_35 d_C_at_38 (fun x hx => (hno x hx).elim) (Nat.le_of_ble_eq_true rfl) (Nat.le_of_ble_eq_true rfl) (Nat.le_of_ble_eq_true rfl) (Nat.le_of_ble_eq_true rfl) hlocks (fun t ha hz hk => ⟨(eIA, st), hw, ⟨rfl, hP.kept (fun k q hq => hk q.1 (hP k q hq).lt), hD⟩, xF hS hz hk⟩) hS.2.2 (Nat.le_of_ble_eq_true rfl) (Nat.le_of_ble_eq_true rfl)
    · skip
      have hw := hw.2 c4
      refine lv_iload_n hx hb d_C_at_14 rfl (lv_at hl 3 rfl) ?_
      refine vp_callSi (va_Run.run (va_runS (As := [.int p2]) (rest := []) ⟨hx, hb, hml, hown, hts⟩ (t_C_isNear l p2 hw) (va_cwS 1 hts (gS m_354 m_355 m_1 (cw_call m_356)) rfl rfl rfl (by decide +kernel) ⟨Nat.le_of_ble_eq_true rfl, Nat.le_of_ble_eq_true rfl⟩) ⟨pSt_bl, fun U hU hW => ⟨rfl, trivial⟩⟩ rfl rfl hl.1 rfl (lv_room (Nat.le_of_ble_eq_true rfl)) d_C_at_15 ⟨Nat.le_of_ble_eq_true rfl, Nat.le_of_ble_eq_true rfl⟩)) (fun r5 hw => ?_)
      refine lv_if_eq (tgt := 29) hx hb d_C_at_18 (by decide) (fun c6 => ?_) (fun c6 => ?_)
      · skip
        have hw := hw.1 c6
        obtain ⟨sa, hsa⟩ := hT (124, "a number of a point is not -100 .. 100") (by decide +kernel)
        exact vx_throwS (own := RC) (cls := eIA) (text := "a number of a point is not -100 .. 100") (names := eUp) (ik := 55) (is := 124) (ic := 59) (sa := sa) (A := A) hx hb hst hown (by decide +kernel) f_up (hts _ m_182) (hts _ m_9) hsa (fun w h => (x_IA w h).elim (hts w) (fun q => hX.use q)) o_IA hZ.1 hZ.2 hS (hl.1.trans hml.symm) d_C_at_29 d_C_at_32 d_C_at_33 d_C_at_35 d_C_at_38 (fun x hx => (hno x hx).elim) (Nat.le_of_ble_eq_true rfl) (Nat.le_of_ble_eq_true rfl) (Nat.le_of_ble_eq_true rfl) (Nat.le_of_ble_eq_true rfl) hlocks (fun t ha hz hk => ⟨(eIA, st), hw, ⟨rfl, hP.kept (fun k q hq => hk q.1 (hP k q hq).lt), hD⟩, xF hS hz hk⟩) hS.2.2 (Nat.le_of_ble_eq_true rfl) (Nat.le_of_ble_eq_true rfl)
      · skip
        have hw := hw.2 c6
        refine lv_iload hx hb d_C_at_21 (lv_at hl 4 rfl) ?_
        refine vp_callSi (va_Run.run (va_runS (As := [.int p3]) (rest := []) ⟨hx, hb, hml, hown, hts⟩ (t_C_isNear l p3 hw) (va_cwS 1 hts (gS m_354 m_355 m_1 (cw_call m_356)) rfl rfl rfl (by decide +kernel) ⟨Nat.le_of_ble_eq_true rfl, Nat.le_of_ble_eq_true rfl⟩) ⟨pSt_bl, fun U hU hW => ⟨rfl, trivial⟩⟩ rfl rfl hl.1 rfl (lv_room (Nat.le_of_ble_eq_true rfl)) d_C_at_23 ⟨Nat.le_of_ble_eq_true rfl, Nat.le_of_ble_eq_true rfl⟩)) (fun r7 hw => ?_)
        refine lv_if_ne (tgt := 39) hx hb d_C_at_26 (by decide) (fun c8 => ?_) (fun c8 => ?_)
        · skip
          have hw := hw.1 c8
          refine lv_iload_n hx hb d_C_at_39 rfl (lv_at hl 2 rfl) ?_
          refine lv_iconst (v := 1) hx hb d_C_at_40 (by decide) ?_
          refine lv_icmp_lt (tgt := 50) hx hb d_C_at_41 (by decide) (fun c9 => ?_) (fun c9 => ?_)
          · skip
            have hw := hw.1 c9
            obtain ⟨sa, hsa⟩ := hT (126, "q or s is below 1") (by decide +kernel)
            exact vx_throwS (own := RC) (cls := eIA) (text := "q or s is below 1") (names := eUp) (ik := 55) (is := 126) (ic := 59) (sa := sa) (A := A) hx hb hst hown (by decide +kernel) f_up (hts _ m_182) (hts _ m_9) hsa (fun w h => (x_IA w h).elim (hts w) (fun q => hX.use q)) o_IA hZ.1 hZ.2 hS (hl.1.trans hml.symm) d_C_at_50 d_C_at_53 d_C_at_54 d_C_at_56 d_C_at_59 (fun x hx => (hno x hx).elim) (Nat.le_of_ble_eq_true rfl) (Nat.le_of_ble_eq_true rfl) (Nat.le_of_ble_eq_true rfl) (Nat.le_of_ble_eq_true rfl) hlocks (fun t ha hz hk => ⟨(eIA, st), hw, ⟨rfl, hP.kept (fun k q hq => hk q.1 (hP k q hq).lt), hD⟩, xF hS hz hk⟩) hS.2.2 (Nat.le_of_ble_eq_true rfl) (Nat.le_of_ble_eq_true rfl)
          · skip
            have hw := hw.2 c9
            refine lv_iload hx hb d_C_at_44 (lv_at hl 4 rfl) ?_
            refine lv_iconst (v := 1) hx hb d_C_at_46 (by decide) ?_
            refine lv_icmp_ge (tgt := 60) hx hb d_C_at_47 (by decide) (fun c10 => ?_) (fun c10 => ?_)
            · skip
              have hw := hw.1 c10
              refine lv_aload_n hx hb d_C_at_60 rfl (lv_at hl 0 rfl) ?_
              refine lv_iload_n hx hb d_C_at_61 rfl (lv_at hl 1 rfl) ?_
              refine lv_i2l (v := p0.toInt64) hx hb d_C_at_62 rfl ?_
              refine lv_iload_n hx hb d_C_at_63 rfl (lv_at hl 2 rfl) ?_
              refine lv_i2l (v := p1.toInt64) hx hb d_C_at_64 rfl ?_
              have hFc := va_freeA hD hS hA
              refine va_callv (va_runV (As := [.long p0.toInt64, .long p1.toInt64]) (rest := []) ⟨hx, hb, hml, hown, hts⟩ (t_C_measureHeights l dC dI h k _ st p0.toInt64 p1.toInt64 hw) (cwV 2 hts (gV m_89 m_91 s_5 m_1 (cw_call m_92)) rfl rfl rfl (by decide +kernel) ⟨Nat.le_of_ble_eq_true rfl, Nat.le_of_ble_eq_true rfl⟩) ⟨pRw_bl, va_recv hK hP (ci := 1) (q0 := 0) rfl rfl, fun U hU hW => ⟨rfl, pRw_at hP hK hN hD hU hW⟩⟩ rfl rfl hl.1 rfl (lv_room (Nat.le_of_ble_eq_true rfl)) d_C_at_65 ⟨Nat.le_of_ble_eq_true rfl, Nat.le_of_ble_eq_true rfl⟩) hS (fun q _ h => hFc q h) hFc (fun u11 t H1 locs ht hvm hw hB hz1 hk1 hS => ?_)
              obtain ⟨hP1, hD1⟩ := hB
              rw [ht] at hP1
              have hP := hP1
              have hD := hD1.weaken (fun _ q _ h => hFc q.1 h)
              generalize H1 = H at hP hS ⊢
              have hP : va_P (dC, dI) vwCl (WC h k u11) H := hP
              have hD : va_D A (WC h k u11) := hD
              refine lv_aload_n hx hb d_C_at_68 rfl (lv_at hl 0 rfl) ?_
              refine va_get (D := (dC, dI)) (ci := 1) (v := .ref (h 13)) (C := RC) (T := TC) (N := 10) hx hb hts i_C hown hK hP 0 rfl rfl 9 (by decide) (hts _ m_114) (fun _ h9 => h9) rfl d_C_at_69 ?_
              refine lv_aload_n hx hb d_C_at_72 rfl (lv_at hl 0 rfl) ?_
              refine va_get (D := (dC, dI)) (ci := 1) (v := .ref (h 4)) (C := RC) (T := TC) (N := 10) hx hb hts i_C hown hK hP 0 rfl rfl 4 (by decide) (hts _ m_109) (fun _ h9 => h9) rfl d_C_at_73 ?_
              refine lv_iload_n hx hb d_C_at_76 rfl (lv_at hl 1 rfl) ?_
              refine lv_i2l (v := p0.toInt64) hx hb d_C_at_77 rfl ?_
              refine lv_iload_n hx hb d_C_at_78 rfl (lv_at hl 2 rfl) ?_
              refine lv_i2l (v := p1.toInt64) hx hb d_C_at_79 rfl ?_
              have hPc := hP.sub (ws' := WK (fun i => h (4 + i)) (fun i => k (4 + i)) (CS.cu u11)) [4, 5, 6] rfl
              have hKc := hK.sub (tys' := YK (fun i => k (4 + i))) [3, 4] rfl
              refine vp_callSi (va_Run.run (va_runV (As := [.long p0.toInt64, .long p1.toInt64]) (rest := [.ref (h 13)]) ⟨hx, hb, hml, hown, hts⟩ (t_K_pieceOf l dC dI (fun i => h (4 + i)) (fun i => k (4 + i)) (CS.cu u11) p0.toInt64 p1.toInt64 hw) (cwV 2 hts (gV m_104 m_58 m_59 m_2 (cw_call m_60)) rfl rfl rfl (by decide +kernel) ⟨Nat.le_of_ble_eq_true rfl, Nat.le_of_ble_eq_true rfl⟩) ⟨pRo_bl, va_recv hKc hPc (ci := 0) (q0 := 0) rfl rfl, fun U hU hW => ⟨rfl, pRo_at hPc hKc hN hU hW⟩⟩ rfl rfl hl.1 rfl (lv_room (Nat.le_of_ble_eq_true rfl)) d_C_at_80 ⟨Nat.le_of_ble_eq_true rfl, Nat.le_of_ble_eq_true rfl⟩)) (fun r12 hw => ?_)
              obtain ⟨h13, hw⟩ := hw
              refine va_iald hx hb hK hP 13 10 rfl rfl h13 d_C_at_83 ?_
              refine lv_aload_n hx hb d_C_at_84 rfl (lv_at hl 0 rfl) ?_
              refine va_get (D := (dC, dI)) (ci := 1) (v := .ref (h 7)) (C := RC) (T := TC) (N := 10) hx hb hts i_C hown hK hP 0 rfl rfl 5 (by decide) (hts _ m_110) (fun _ h9 => h9) rfl d_C_at_85 ?_
              refine lv_iload_n hx hb d_C_at_88 rfl (lv_at hl 3 rfl) ?_
              refine lv_i2l (v := p2.toInt64) hx hb d_C_at_89 rfl ?_
              refine lv_iload hx hb d_C_at_90 (lv_at hl 4 rfl) ?_
              refine lv_i2l (v := p3.toInt64) hx hb d_C_at_92 rfl ?_
              have hPc := hP.sub (ws' := WK (fun i => h (7 + i)) (fun i => k (7 + i)) (CS.he u11)) [7, 8, 9] rfl
              have hKc := hK.sub (tys' := YK (fun i => k (7 + i))) [5, 6] rfl
              refine vp_callSi (va_Run.run (va_runV (As := [.long p2.toInt64, .long p3.toInt64]) (rest := [.int ((CS.fc u11) r12.toNatClampNeg)]) ⟨hx, hb, hml, hown, hts⟩ (t_K_pieceOf l dC dI (fun i => h (7 + i)) (fun i => k (7 + i)) (CS.he u11) p2.toInt64 p3.toInt64 hw) (cwV 2 hts (gV m_104 m_58 m_59 m_2 (cw_call m_60)) rfl rfl rfl (by decide +kernel) ⟨Nat.le_of_ble_eq_true rfl, Nat.le_of_ble_eq_true rfl⟩) ⟨pRo_bl, va_recv hKc hPc (ci := 0) (q0 := 0) rfl rfl, fun U hU hW => ⟨rfl, pRo_at hPc hKc hN hU hW⟩⟩ rfl rfl hl.1 rfl (lv_room (Nat.le_of_ble_eq_true rfl)) d_C_at_93 ⟨Nat.le_of_ble_eq_true rfl, Nat.le_of_ble_eq_true rfl⟩)) (fun r14 hw => ?_)
              refine lv_iadd hx hb d_C_at_96 ?_
              refine vx_ret ?_
              refine W.widen (k := 1) (n := 6) (Nat.le_of_ble_eq_true rfl) (Nat.le_of_ble_eq_true rfl) ?_
              exact W.iret (v := (((CS.fc u11) r12.toNatClampNeg) + r14)) hx hb hr (fun t ht hW => ⟨⟨(((CS.fc u11) r12.toNatClampNeg) + r14), u11, rfl, hw, by rw [ht]; exact hP, hD⟩, hS.F ht⟩) hS.2.2 d_C_at_97
            · skip
              have hw := hw.2 c10
              obtain ⟨sa, hsa⟩ := hT (126, "q or s is below 1") (by decide +kernel)
              exact vx_throwS (own := RC) (cls := eIA) (text := "q or s is below 1") (names := eUp) (ik := 55) (is := 126) (ic := 59) (sa := sa) (A := A) hx hb hst hown (by decide +kernel) f_up (hts _ m_182) (hts _ m_9) hsa (fun w h => (x_IA w h).elim (hts w) (fun q => hX.use q)) o_IA hZ.1 hZ.2 hS (hl.1.trans hml.symm) d_C_at_50 d_C_at_53 d_C_at_54 d_C_at_56 d_C_at_59 (fun x hx => (hno x hx).elim) (Nat.le_of_ble_eq_true rfl) (Nat.le_of_ble_eq_true rfl) (Nat.le_of_ble_eq_true rfl) (Nat.le_of_ble_eq_true rfl) hlocks (fun t ha hz hk => ⟨(eIA, st), hw, ⟨rfl, hP.kept (fun k q hq => hk q.1 (hP k q hq).lt), hD⟩, xF hS hz hk⟩) hS.2.2 (Nat.le_of_ble_eq_true rfl) (Nat.le_of_ble_eq_true rfl)
        · skip
          have hw := hw.2 c8
          obtain ⟨sa, hsa⟩ := hT (124, "a number of a point is not -100 .. 100") (by decide +kernel)
          exact vx_throwS (own := RC) (cls := eIA) (text := "a number of a point is not -100 .. 100") (names := eUp) (ik := 55) (is := 124) (ic := 59) (sa := sa) (A := A) hx hb hst hown (by decide +kernel) f_up (hts _ m_182) (hts _ m_9) hsa (fun w h => (x_IA w h).elim (hts w) (fun q => hX.use q)) o_IA hZ.1 hZ.2 hS (hl.1.trans hml.symm) d_C_at_29 d_C_at_32 d_C_at_33 d_C_at_35 d_C_at_38 (fun x hx => (hno x hx).elim) (Nat.le_of_ble_eq_true rfl) (Nat.le_of_ble_eq_true rfl) (Nat.le_of_ble_eq_true rfl) (Nat.le_of_ble_eq_true rfl) hlocks (fun t ha hz hk => ⟨(eIA, st), hw, ⟨rfl, hP.kept (fun k q hq => hk q.1 (hP k q hq).lt), hD⟩, xF hS hz hk⟩) hS.2.2 (Nat.le_of_ble_eq_true rfl) (Nat.le_of_ble_eq_true rfl)
def w_C_touch (st : CS) (post : Int32 → CS → Prop) (px : String → CS → Prop) (p0 : Int32) (p1 : Int32) : Prop := w_C_isCell st (fun r1 => ((r1 = 0 → (px eIO st)) ∧ (¬ r1 = 0 → (w_C_isCell st (fun r3 => ((¬ r3 = 0 → (w_C_stripOf st (fun r5 => (w_C_stripOf st (fun r6 => (vp_in r5 32 ∧ (∀ y8 : Int32, y8 = (p0 - ((CS.fc st) r5.toNatClampNeg)) → (vp_in r6 32 ∧ (∀ y10 : Int32, y10 = (p1 - ((CS.fc st) r6.toNatClampNeg)) → ((¬ r5 = r6 → (((if 0 ≤ (r5 - r6) then (r5 - r6) else 0 - (r5 - r6)) = 1 → ((¬ (r5 - r5 / 2 * 2) = 1 → (w_C_reaches st (fun r14 => (narrow .boolean (.int r14) = .int r14 ∧ post r14 st)) r5 y8 r6 y10)) ∧ ((r5 - r5 / 2 * 2) = 1 → (w_C_reaches st (fun r15 => (narrow .boolean (.int r15) = .int r15 ∧ post r15 st)) r6 y10 r5 y8)))) ∧ (¬ (if 0 ≤ (r5 - r6) then (r5 - r6) else 0 - (r5 - r6)) = 1 → (post 0 st)))) ∧ (r5 = r6 → ((1 < (if 0 ≤ (y8 - y10) then (y8 - y10) else 0 - (y8 - y10)) → (post 0 st)) ∧ (¬ 1 < (if 0 ≤ (y8 - y10) then (y8 - y10) else 0 - (y8 - y10)) → (post 1 st)))))))))) p1)) p0)) ∧ (r3 = 0 → (px eIO st)))) p1)))) p0
set_option maxHeartbeats 4000000 in
set_option maxRecDepth 100000 in
theorem t_C_touch (l : Launch) (hst : l.stackTraces = false) (dC : Nat → ClassId) (dI : Nat → Nat → Nat) (h : Nat → Nat) (k : Nat → ClassId) (sz : Nat) (st : CS) (p0 : Int32) (p1 : Int32) {post : Int32 → CS → Prop} {px : String → CS → Prop} (hw : w_C_touch st post px p0 p1) : vx_Met l y_C_touch (Cond.code y_C_touch prog_1_method_13_code 7 (some .boolean) :: cw) ({ frames := 6, cells := 1, slots := 6, locals := 82 } : Room) (va_Pc [.ref (h 0), .int p0, .int p1] (pRx (dC, dI) (WC h k st) (YC k) sz)) (va_Qi post (fun u t => va_P (dC, dI) vwCl (WC h k u) t.heap ∧ va_D (va_A (WC h k st) sz) (WC h k u)) (va_A (WC h k st) sz)) (vx_X (fun z : String × CS => px z.1 z.2) (fun E z t => z.1 = E ∧ va_P (dC, dI) vwCl (WC h k z.2) t.heap ∧ va_D (va_A (WC h k st) sz) (WC h k z.2)) (va_A (WC h k st) sz)) 1 6 (va_A (WC h k st) sz) := by
  refine vx_ofW (cc := prog_1_method_13_code) (maxL := 7) (ret := (some .boolean)) (by decide) rfl ?_
  intro p e s m args below meth c s₁ B hml hno hv
  obtain ⟨rfl, ⟨hsz, hP, hK, hN, hD0⟩, hX, hT, hZ⟩ := hv
  have hx := B.exec
  have hb := B.bytes
  have hr := B.returns
  have hts : ∀ w ∈ cw, w.before _ s = true := fun w h => atoms_spec (ws := (Cond.code y_C_touch prog_1_method_13_code 7 (some .boolean) :: cw)) B.pre w (List.mem_cons_of_mem _ h)
  have hown : s.vm.findClass RC = some m.cls := findClass_of_methodNamed B.named
  have hlocks := B.notSynchronized
  have C0 : cxt p s m _ meth c prog_1_method_13_code 7 RC (some .boolean) := ⟨hx, hb, hr, hml, hown, hts, hlocks⟩
  subst hsz
  have hD := hD0.self (sz := s.heap.size)
  generalize hAe : va_A (WC h k st) s.heap.size = A at hD hZ ⊢
  have hA : ∀ q : Nat, s.heap.size ≤ q → A q := fun q h => by rw [← hAe]; exact Or.inr h
  have hS : va_S A s.heap s.heap [] := va_S.rf
  have hl := lv_entry ([.ref (h 0), .int p0, .int p1]) (n := 7) (Nat.le_of_ble_eq_true rfl)
  rw [lg_entry_eq]
  generalize (lg_sl ([.ref (h 0), .int p0, .int p1]) ++ List.replicate (7 - (lg_sl ([.ref (h 0), .int p0, .int p1])).length) Slot.unset).toArray = ls at hl ⊢
  have hl : lv_has ls 7 [(0, .ref (h 0)), (1, .int p0), (2, .int p1)] := hl
  unfold w_C_touch at hw
  refine lv_aload_n hx hb d_C_touch_0 rfl (lv_at hl 0 rfl) ?_
  refine lv_iload_n hx hb d_C_touch_1 rfl (lv_at hl 1 rfl) ?_
  refine vp_callSi (va_Run.run (va_runV (As := [.int p0]) (rest := []) ⟨hx, hb, hml, hown, hts⟩ (t_C_isCell l dC dI h k st p0 hw) (cwV 1 hts (gV m_322 m_324 s_13 m_1 (cw_call m_325)) rfl rfl rfl (by decide +kernel) ⟨Nat.le_of_ble_eq_true rfl, Nat.le_of_ble_eq_true rfl⟩) ⟨pRo_bl, va_recv hK hP (ci := 1) (q0 := 0) rfl rfl, fun U hU hW => ⟨rfl, pRo_at hP hK hN hU hW⟩⟩ rfl rfl hl.1 rfl (lv_room (Nat.le_of_ble_eq_true rfl)) d_C_touch_2 ⟨Nat.le_of_ble_eq_true rfl, Nat.le_of_ble_eq_true rfl⟩)) (fun r1 hw => ?_)
  refine lv_if_eq (tgt := 16) hx hb d_C_touch_5 (by decide) (fun c2 => ?_) (fun c2 => ?_)
  · skip
    have hw := hw.1 c2
    obtain ⟨sa, hsa⟩ := hT (104, "no such cell") (by decide +kernel)
    exact vx_throwS (own := RC) (cls := eIO) (text := "no such cell") (names := eUp) (ik := 72) (is := 104) (ic := 76) (sa := sa) (A := A) hx hb hst hown (by decide +kernel) f_up (hts _ m_279) (hts _ m_11) hsa (fun w h => (x_IO w h).elim (hts w) (fun q => hX.use q)) o_IO hZ.1 hZ.2 hS (hl.1.trans hml.symm) d_C_touch_16 d_C_touch_19 d_C_touch_20 d_C_touch_22 d_C_touch_25 (fun x hx => (hno x hx).elim) (Nat.le_of_ble_eq_true rfl) (Nat.le_of_ble_eq_true rfl) (Nat.le_of_ble_eq_true rfl) (Nat.le_of_ble_eq_true rfl) hlocks (fun t ha hz hk => ⟨(eIO, st), hw, ⟨rfl, hP.kept (fun k q hq => hk q.1 (hP k q hq).lt), hD⟩, xF hS hz hk⟩) hS.2.2 (Nat.le_of_ble_eq_true rfl) (Nat.le_of_ble_eq_true rfl)
  · skip
    have hw := hw.2 c2
    refine lv_aload_n hx hb d_C_touch_8 rfl (lv_at hl 0 rfl) ?_
    refine lv_iload_n hx hb d_C_touch_9 rfl (lv_at hl 2 rfl) ?_
    refine vp_callSi (va_Run.run (va_runV (As := [.int p1]) (rest := []) ⟨hx, hb, hml, hown, hts⟩ (t_C_isCell l dC dI h k st p1 hw) (cwV 1 hts (gV m_322 m_324 s_13 m_1 (cw_call m_325)) rfl rfl rfl (by decide +kernel) ⟨Nat.le_of_ble_eq_true rfl, Nat.le_of_ble_eq_true rfl⟩) ⟨pRo_bl, va_recv hK hP (ci := 1) (q0 := 0) rfl rfl, fun U hU hW => ⟨rfl, pRo_at hP hK hN hU hW⟩⟩ rfl rfl hl.1 rfl (lv_room (Nat.le_of_ble_eq_true rfl)) d_C_touch_10 ⟨Nat.le_of_ble_eq_true rfl, Nat.le_of_ble_eq_true rfl⟩)) (fun r3 hw => ?_)
    refine lv_if_ne (tgt := 26) hx hb d_C_touch_13 (by decide) (fun c4 => ?_) (fun c4 => ?_)
    · skip
      have hw := hw.1 c4
      refine lv_aload_n hx hb d_C_touch_26 rfl (lv_at hl 0 rfl) ?_
      refine lv_iload_n hx hb d_C_touch_27 rfl (lv_at hl 1 rfl) ?_
      refine vp_callSi (va_Run.run (va_runV (As := [.int p0]) (rest := []) ⟨hx, hb, hml, hown, hts⟩ (t_C_stripOf l dC dI h k st p0 hw) (cwV 1 hts (gV m_327 m_329 s_14 m_1 (cw_call m_330)) rfl rfl rfl (by decide +kernel) ⟨Nat.le_of_ble_eq_true rfl, Nat.le_of_ble_eq_true rfl⟩) ⟨pRo_bl, va_recv hK hP (ci := 1) (q0 := 0) rfl rfl, fun U hU hW => ⟨rfl, pRo_at hP hK hN hU hW⟩⟩ rfl rfl hl.1 rfl (lv_room (Nat.le_of_ble_eq_true rfl)) d_C_touch_28 ⟨Nat.le_of_ble_eq_true rfl, Nat.le_of_ble_eq_true rfl⟩)) (fun r5 hw => ?_)
      refine lv_istore_n (lv' := [(3, .int r5), (0, .ref (h 0)), (1, .int p0), (2, .int p1)]) hx hb d_C_touch_31 rfl hl (by decide) rfl (fun ls hl => ?_)
      refine lv_aload_n hx hb d_C_touch_32 rfl (lv_at hl 1 rfl) ?_
      refine lv_iload_n hx hb d_C_touch_33 rfl (lv_at hl 3 rfl) ?_
      refine vp_callSi (va_Run.run (va_runV (As := [.int p1]) (rest := []) ⟨hx, hb, hml, hown, hts⟩ (t_C_stripOf l dC dI h k st p1 hw) (cwV 1 hts (gV m_327 m_329 s_14 m_1 (cw_call m_330)) rfl rfl rfl (by decide +kernel) ⟨Nat.le_of_ble_eq_true rfl, Nat.le_of_ble_eq_true rfl⟩) ⟨pRo_bl, va_recv hK hP (ci := 1) (q0 := 0) rfl rfl, fun U hU hW => ⟨rfl, pRo_at hP hK hN hU hW⟩⟩ rfl rfl hl.1 rfl (lv_room (Nat.le_of_ble_eq_true rfl)) d_C_touch_34 ⟨Nat.le_of_ble_eq_true rfl, Nat.le_of_ble_eq_true rfl⟩)) (fun r6 hw => ?_)
      refine lv_istore (lv' := [(4, .int r6), (3, .int r5), (0, .ref (h 0)), (1, .int p0), (2, .int p1)]) hx hb d_C_touch_37 hl (by decide) rfl (fun ls hl => ?_)
      refine lv_iload_n hx hb d_C_touch_39 rfl (lv_at hl 3 rfl) ?_
      refine lv_aload_n hx hb d_C_touch_40 rfl (lv_at hl 2 rfl) ?_
      refine va_get (D := (dC, dI)) (ci := 1) (v := .ref (h 13)) (C := RC) (T := TC) (N := 10) hx hb hts i_C hown hK hP 0 rfl rfl 9 (by decide) (hts _ m_114) (fun _ h9 => h9) rfl d_C_touch_41 ?_
      refine lv_iload_n hx hb d_C_touch_44 rfl (lv_at hl 1 rfl) ?_
      obtain ⟨h7, hw⟩ := hw
      refine va_iald hx hb hK hP 13 10 rfl rfl h7 d_C_touch_45 ?_
      refine lv_isub hx hb d_C_touch_46 ?_
      refine lv_topi (fun y8 ey8 => ?_)
      have hw := hw y8 ey8
      refine lv_istore (lv' := [(5, .int y8), (4, .int r6), (3, .int r5), (0, .ref (h 0)), (1, .int p0), (2, .int p1)]) hx hb d_C_touch_47 hl (by decide) rfl (fun ls hl => ?_)
      refine lv_iload_n hx hb d_C_touch_49 rfl (lv_at hl 5 rfl) ?_
      refine lv_aload_n hx hb d_C_touch_50 rfl (lv_at hl 3 rfl) ?_
      refine va_get (D := (dC, dI)) (ci := 1) (v := .ref (h 13)) (C := RC) (T := TC) (N := 10) hx hb hts i_C hown hK hP 0 rfl rfl 9 (by decide) (hts _ m_114) (fun _ h9 => h9) rfl d_C_touch_51 ?_
      refine lv_iload hx hb d_C_touch_54 (lv_at hl 1 rfl) ?_
      obtain ⟨h9, hw⟩ := hw
      refine va_iald hx hb hK hP 13 10 rfl rfl h9 d_C_touch_56 ?_
      refine lv_isub hx hb d_C_touch_57 ?_
      refine lv_topi (fun y10 ey10 => ?_)
      have hw := hw y10 ey10
      refine lv_istore (lv' := [(6, .int y10), (5, .int y8), (4, .int r6), (3, .int r5), (0, .ref (h 0)), (1, .int p0), (2, .int p1)]) hx hb d_C_touch_58 hl (by decide) rfl (fun ls hl => ?_)
      refine lv_iload_n hx hb d_C_touch_60 rfl (lv_at hl 3 rfl) ?_
      refine lv_iload hx hb d_C_touch_61 (lv_at hl 2 rfl) ?_
      refine lv_icmp_ne (tgt := 84) hx hb d_C_touch_63 (by decide) (fun c11 => ?_) (fun c11 => ?_)
      · skip
        have hw := hw.1 c11
        refine lv_iload_n hx hb d_C_touch_84 rfl (lv_at hl 3 rfl) ?_
        refine lv_iload hx hb d_C_touch_85 (lv_at hl 2 rfl) ?_
        refine lv_isub hx hb d_C_touch_87 ?_
        refine va_mabs hx hb (hml.trans hl.1.symm) hown (hts _ m_101) (hts _ m_102) (hts _ m_4) (hts _ m_103) (Nat.le_of_ble_eq_true rfl) (Nat.le_of_ble_eq_true rfl) (Nat.le_of_ble_eq_true rfl) (Nat.le_of_ble_eq_true rfl) d_C_touch_88 ?_
        refine lv_iconst (v := 1) hx hb d_C_touch_91 (by decide) ?_
        refine lv_icmp_eq (tgt := 97) hx hb d_C_touch_92 (by decide) (fun c12 => ?_) (fun c12 => ?_)
        · skip
          have hw := hw.1 c12
          refine lv_iload_n hx hb d_C_touch_97 rfl (lv_at hl 3 rfl) ?_
          refine lv_iconst (v := 2) hx hb d_C_touch_98 (by decide) ?_
          refine lv_irem hx hb d_C_touch_99 (by decide) ?_
          refine lv_iconst (v := 1) hx hb d_C_touch_100 (by decide) ?_
          refine lv_icmp_ne (tgt := 118) hx hb d_C_touch_101 (by decide) (fun c13 => ?_) (fun c13 => ?_)
          · skip
            have hw := hw.1 c13
            refine lv_aload_n hx hb d_C_touch_118 rfl (lv_at hl 4 rfl) ?_
            refine lv_iload_n hx hb d_C_touch_119 rfl (lv_at hl 3 rfl) ?_
            refine lv_iload hx hb d_C_touch_120 (lv_at hl 1 rfl) ?_
            refine lv_iload hx hb d_C_touch_122 (lv_at hl 2 rfl) ?_
            refine lv_iload hx hb d_C_touch_124 (lv_at hl 0 rfl) ?_
            refine vp_callSi (va_Run.run (va_runV (As := [.int r5, .int y8, .int r6, .int y10]) (rest := []) ⟨hx, hb, hml, hown, hts⟩ (t_C_reaches l dC dI h k st r5 y8 r6 y10 hw) (cwV 4 hts (gV m_366 m_368 s_15 m_1 (cw_call m_369)) rfl rfl rfl (by decide +kernel) ⟨Nat.le_of_ble_eq_true rfl, Nat.le_of_ble_eq_true rfl⟩) ⟨pRo_bl, va_recv hK hP (ci := 1) (q0 := 0) rfl rfl, fun U hU hW => ⟨rfl, pRo_at hP hK hN hU hW⟩⟩ rfl rfl hl.1 rfl (lv_room (Nat.le_of_ble_eq_true rfl)) d_C_touch_126 ⟨Nat.le_of_ble_eq_true rfl, Nat.le_of_ble_eq_true rfl⟩)) (fun r14 hw => ?_)
            obtain ⟨hn, hw⟩ := hw
            refine vx_ret ?_
            refine W.widen (k := 1) (n := 6) (Nat.le_of_ble_eq_true rfl) (Nat.le_of_ble_eq_true rfl) ?_
            exact W.zret (v := r14) hx hb hr hn (fun t ht hW => ⟨⟨r14, st, rfl, hw, by rw [ht]; exact hP, hD⟩, hS.F ht⟩) hS.2.2 d_C_touch_129
          · skip
            have hw := hw.2 c13
            refine lv_aload_n hx hb d_C_touch_104 rfl (lv_at hl 4 rfl) ?_
            refine lv_iload hx hb d_C_touch_105 (lv_at hl 2 rfl) ?_
            refine lv_iload hx hb d_C_touch_107 (lv_at hl 0 rfl) ?_
            refine lv_iload_n hx hb d_C_touch_109 rfl (lv_at hl 3 rfl) ?_
            refine lv_iload hx hb d_C_touch_110 (lv_at hl 1 rfl) ?_
            refine vp_callSi (va_Run.run (va_runV (As := [.int r6, .int y10, .int r5, .int y8]) (rest := []) ⟨hx, hb, hml, hown, hts⟩ (t_C_reaches l dC dI h k st r6 y10 r5 y8 hw) (cwV 4 hts (gV m_366 m_368 s_15 m_1 (cw_call m_369)) rfl rfl rfl (by decide +kernel) ⟨Nat.le_of_ble_eq_true rfl, Nat.le_of_ble_eq_true rfl⟩) ⟨pRo_bl, va_recv hK hP (ci := 1) (q0 := 0) rfl rfl, fun U hU hW => ⟨rfl, pRo_at hP hK hN hU hW⟩⟩ rfl rfl hl.1 rfl (lv_room (Nat.le_of_ble_eq_true rfl)) d_C_touch_112 ⟨Nat.le_of_ble_eq_true rfl, Nat.le_of_ble_eq_true rfl⟩)) (fun r15 hw => ?_)
            refine lv_goto (tgt := 129) hx hb d_C_touch_115 (by decide) ?_
            obtain ⟨hn, hw⟩ := hw
            refine vx_ret ?_
            refine W.widen (k := 1) (n := 6) (Nat.le_of_ble_eq_true rfl) (Nat.le_of_ble_eq_true rfl) ?_
            exact W.zret (v := r15) hx hb hr hn (fun t ht hW => ⟨⟨r15, st, rfl, hw, by rw [ht]; exact hP, hD⟩, hS.F ht⟩) hS.2.2 d_C_touch_129
        · skip
          have hw := hw.2 c12
          refine lv_iconst (v := 0) hx hb d_C_touch_95 (by decide) ?_
          refine vx_ret ?_
          refine W.widen (k := 1) (n := 6) (Nat.le_of_ble_eq_true rfl) (Nat.le_of_ble_eq_true rfl) ?_
          exact W.zret (v := 0) hx hb hr rfl (fun t ht hW => ⟨⟨0, st, rfl, hw, by rw [ht]; exact hP, hD⟩, hS.F ht⟩) hS.2.2 d_C_touch_96
      · skip
        have hw := hw.2 c11
        refine lv_iload hx hb d_C_touch_66 (lv_at hl 1 rfl) ?_
        refine lv_iload hx hb d_C_touch_68 (lv_at hl 0 rfl) ?_
        refine lv_isub hx hb d_C_touch_70 ?_
        refine va_mabs hx hb (hml.trans hl.1.symm) hown (hts _ m_101) (hts _ m_102) (hts _ m_4) (hts _ m_103) (Nat.le_of_ble_eq_true rfl) (Nat.le_of_ble_eq_true rfl) (Nat.le_of_ble_eq_true rfl) (Nat.le_of_ble_eq_true rfl) d_C_touch_71 ?_
        refine lv_iconst (v := 1) hx hb d_C_touch_74 (by decide) ?_
        refine lv_icmp_gt (tgt := 82) hx hb d_C_touch_75 (by decide) (fun c16 => ?_) (fun c16 => ?_)
        · skip
          have hw := hw.1 c16
          refine lv_iconst (v := 0) hx hb d_C_touch_82 (by decide) ?_
          refine vx_ret ?_
          refine W.widen (k := 1) (n := 6) (Nat.le_of_ble_eq_true rfl) (Nat.le_of_ble_eq_true rfl) ?_
          exact W.zret (v := 0) hx hb hr rfl (fun t ht hW => ⟨⟨0, st, rfl, hw, by rw [ht]; exact hP, hD⟩, hS.F ht⟩) hS.2.2 d_C_touch_83
        · skip
          have hw := hw.2 c16
          refine lv_iconst (v := 1) hx hb d_C_touch_78 (by decide) ?_
          refine lv_goto (tgt := 83) hx hb d_C_touch_79 (by decide) ?_
          refine vx_ret ?_
          refine W.widen (k := 1) (n := 6) (Nat.le_of_ble_eq_true rfl) (Nat.le_of_ble_eq_true rfl) ?_
          exact W.zret (v := 1) hx hb hr rfl (fun t ht hW => ⟨⟨1, st, rfl, hw, by rw [ht]; exact hP, hD⟩, hS.F ht⟩) hS.2.2 d_C_touch_83
    · skip
      have hw := hw.2 c4
      obtain ⟨sa, hsa⟩ := hT (104, "no such cell") (by decide +kernel)
      exact vx_throwS (own := RC) (cls := eIO) (text := "no such cell") (names := eUp) (ik := 72) (is := 104) (ic := 76) (sa := sa) (A := A) hx hb hst hown (by decide +kernel) f_up (hts _ m_279) (hts _ m_11) hsa (fun w h => (x_IO w h).elim (hts w) (fun q => hX.use q)) o_IO hZ.1 hZ.2 hS (hl.1.trans hml.symm) d_C_touch_16 d_C_touch_19 d_C_touch_20 d_C_touch_22 d_C_touch_25 (fun x hx => (hno x hx).elim) (Nat.le_of_ble_eq_true rfl) (Nat.le_of_ble_eq_true rfl) (Nat.le_of_ble_eq_true rfl) (Nat.le_of_ble_eq_true rfl) hlocks (fun t ha hz hk => ⟨(eIO, st), hw, ⟨rfl, hP.kept (fun k q hq => hk q.1 (hP k q hq).lt), hD⟩, xF hS hz hk⟩) hS.2.2 (Nat.le_of_ble_eq_true rfl) (Nat.le_of_ble_eq_true rfl)
