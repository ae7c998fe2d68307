def w_M_sampleX (st : MS) (post : MS → Prop) (p0 : Int32) : Prop := ∀ y1 : Int32, y1 = (p0 / 2) → ((¬ (MS.cuts st) = 0 → ((¬ (p0 - p0 / 2 * 2) = 1 → ((¬ p0 = 0 → ((¬ y1 = (MS.cuts st) → (vp_in (y1 - 1) 24 ∧ (vp_in y1 24 ∧ (w_M_lowest st (fun u8 => (post ((MS.code u8), (MS.lines u8), (MS.num u8), (MS.cuts u8), (MS.cu u8), (MS.cd u8), (MS.curves u8), (MS.yu u8), (MS.yd u8), (MS.up u8), (MS.down u8), (MS.up u8), (MS.down u8), (MS.strip u8), (MS.place u8)))) ((((MS.cu st) (y1 - 1).toNatClampNeg) * ((MS.cd st) y1.toNatClampNeg)) + (((MS.cu st) y1.toNatClampNeg) * ((MS.cd st) (y1 - 1).toNatClampNeg))) ((2 * ((MS.cd st) (y1 - 1).toNatClampNeg)) * ((MS.cd st) y1.toNatClampNeg)))))) ∧ (y1 = (MS.cuts st) → (vp_in (y1 - 1) 24 ∧ (w_M_lowest st (fun u10 => (post ((MS.code u10), (MS.lines u10), (MS.num u10), (MS.cuts u10), (MS.cu u10), (MS.cd u10), (MS.curves u10), (MS.yu u10), (MS.yd u10), (MS.up u10), (MS.down u10), (MS.up u10), (MS.down u10), (MS.strip u10), (MS.place u10)))) (((MS.cu st) (y1 - 1).toNatClampNeg) + ((MS.cd st) (y1 - 1).toNatClampNeg)) ((MS.cd st) (y1 - 1).toNatClampNeg)))))) ∧ (p0 = 0 → (w_M_lowest st (fun u11 => (post ((MS.code u11), (MS.lines u11), (MS.num u11), (MS.cuts u11), (MS.cu u11), (MS.cd u11), (MS.curves u11), (MS.yu u11), (MS.yd u11), (MS.up u11), (MS.down u11), (MS.up u11), (MS.down u11), (MS.strip u11), (MS.place u11)))) (((MS.cu st) (0 : Int32).toNatClampNeg) - ((MS.cd st) (0 : Int32).toNatClampNeg)) ((MS.cd st) (0 : Int32).toNatClampNeg))))) ∧ ((p0 - p0 / 2 * 2) = 1 → (vp_in y1 24 ∧ (w_M_lowest st (fun u13 => (post ((MS.code u13), (MS.lines u13), (MS.num u13), (MS.cuts u13), (MS.cu u13), (MS.cd u13), (MS.curves u13), (MS.yu u13), (MS.yd u13), (MS.up u13), (MS.down u13), (MS.up u13), (MS.down u13), (MS.strip u13), (MS.place u13)))) ((MS.cu st) y1.toNatClampNeg) ((MS.cd st) y1.toNatClampNeg)))))) ∧ ((MS.cuts st) = 0 → (w_M_lowest st (fun u14 => (post ((MS.code u14), (MS.lines u14), (MS.num u14), (MS.cuts u14), (MS.cu u14), (MS.cd u14), (MS.curves u14), (MS.yu u14), (MS.yd u14), (MS.up u14), (MS.down u14), (MS.up u14), (MS.down u14), (MS.strip u14), (MS.place u14)))) (0 : Int64) (1 : Int64))))
set_option maxHeartbeats 4000000 in
set_option maxRecDepth 100000 in
theorem t_M_sampleX (l : Launch) (dC : Nat → ClassId) (dI : Nat → Nat → Nat) (h : Nat → Nat) (k : Nat → ClassId) (sz : Nat) (st : MS) (p0 : Int32) {post : MS → Prop} (hw : w_M_sampleX st post p0) : Met l y_M_sampleX (Cond.code y_M_sampleX prog_4_method_14_code 3 none :: cw) ({ frames := 1, cells := 0, slots := 0, locals := 30 } : Room) (va_Pc [.ref (h 0), .int p0] (pRw (dC, dI) (WM h k st) (YM k) sz)) (va_Qv post (fun u t => va_P (dC, dI) vwCl (WM h k u) t.heap ∧ va_D (va_A (WM h k st) sz) (WM h k u)) (va_A (WM h k st) sz)) 0 0 (va_A (WM h k st) sz) := by
  refine Met.ofW (cc := prog_4_method_14_code) (maxL := 3) (ret := none) (by decide) rfl ?_
  intro p e s m args below meth c s₁ B hml hv
  obtain ⟨rfl, hsz, hP, hK, hN, hD0⟩ := hv
  have hx := B.exec
  have hb := B.bytes
  have hr := B.returns
  have hts : ∀ w ∈ cw, w.before _ s = true := fun w h => atoms_spec (ws := (Cond.code y_M_sampleX prog_4_method_14_code 3 none :: cw)) B.pre w (List.mem_cons_of_mem _ h)
  have hown : s.vm.findClass RM = some m.cls := findClass_of_methodNamed B.named
  have hlocks := B.notSynchronized
  have C0 : cxt p s m _ meth c prog_4_method_14_code 3 RM none := ⟨hx, hb, hr, hml, hown, hts, hlocks⟩
  subst hsz
  have hD := hD0.self (sz := s.heap.size)
  generalize hAe : va_A (WM h k st) s.heap.size = A at hD ⊢
  have hA : ∀ q : Nat, s.heap.size ≤ q → A q := fun q h => by rw [← hAe]; exact Or.inr h
  have hS : va_S A s.heap s.heap [] := va_S.rf
  have hl := lv_entry ([.ref (h 0), .int p0]) (n := 3) (Nat.le_of_ble_eq_true rfl)
  rw [lg_entry_eq]
  generalize (lg_sl ([.ref (h 0), .int p0]) ++ List.replicate (3 - (lg_sl ([.ref (h 0), .int p0])).length) Slot.unset).toArray = ls at hl ⊢
  have hl : lv_has ls 3 [(0, .ref (h 0)), (1, .int p0)] := hl
  unfold w_M_sampleX at hw
  refine lv_iload_n hx hb d_M_sampleX_0 rfl (lv_at hl 1 rfl) ?_
  refine lv_iconst (v := 2) hx hb d_M_sampleX_1 (by decide) ?_
  refine lv_idiv hx hb d_M_sampleX_2 (by decide) ?_
  refine lv_topi (fun y1 ey1 => ?_)
  have hw := hw y1 ey1
  refine lv_istore_n (lv' := [(2, .int y1), (0, .ref (h 0)), (1, .int p0)]) hx hb d_M_sampleX_3 rfl hl (by decide) rfl (fun ls hl => ?_)
  refine lv_aload_n hx hb d_M_sampleX_4 rfl (lv_at hl 1 rfl) ?_
  refine va_get (D := (dC, dI)) (ci := 2) (v := .int (MS.cuts st)) (C := RM) (T := TM) (N := 15) hx hb hts i_M hown hK hP 0 rfl rfl 3 (by decide) (hts _ m_379) (fun _ h9 => h9) rfl d_M_sampleX_5 ?_
  refine lv_if_ne (tgt := 20) hx hb d_M_sampleX_8 (by decide) (fun c2 => ?_) (fun c2 => ?_)
  · skip
    have hw := hw.1 c2
    refine lv_iload_n hx hb d_M_sampleX_20 rfl (lv_at hl 2 rfl) ?_
    refine lv_iconst (v := 2) hx hb d_M_sampleX_21 (by decide) ?_
    refine lv_irem hx hb d_M_sampleX_22 (by decide) ?_
    refine lv_iconst (v := 1) hx hb d_M_sampleX_23 (by decide) ?_
    refine lv_icmp_ne (tgt := 46) hx hb d_M_sampleX_24 (by decide) (fun c3 => ?_) (fun c3 => ?_)
    · skip
      have hw := hw.1 c3
      refine lv_iload_n hx hb d_M_sampleX_46 rfl (lv_at hl 2 rfl) ?_
      refine lv_if_ne (tgt := 76) hx hb d_M_sampleX_47 (by decide) (fun c4 => ?_) (fun c4 => ?_)
      · skip
        have hw := hw.1 c4
        refine lv_iload_n hx hb d_M_sampleX_76 rfl (lv_at hl 0 rfl) ?_
        refine lv_aload_n hx hb d_M_sampleX_77 rfl (lv_at hl 1 rfl) ?_
        refine va_get (D := (dC, dI)) (ci := 2) (v := .int (MS.cuts st)) (C := RM) (T := TM) (N := 15) hx hb hts i_M hown hK hP 0 rfl rfl 3 (by decide) (hts _ m_379) (fun _ h9 => h9) rfl d_M_sampleX_78 ?_
        refine lv_icmp_ne (tgt := 116) hx hb d_M_sampleX_81 (by decide) (fun c5 => ?_) (fun c5 => ?_)
        · skip
          have hw := hw.1 c5
          refine lv_aload_n hx hb d_M_sampleX_116 rfl (lv_at hl 1 rfl) ?_
          refine lv_aload_n hx hb d_M_sampleX_117 rfl (lv_at hl 1 rfl) ?_
          refine va_get (D := (dC, dI)) (ci := 2) (v := .ref (h 2)) (C := RM) (T := TM) (N := 15) hx hb hts i_M hown hK hP 0 rfl rfl 4 (by decide) (hts _ m_380) (fun _ h9 => h9) rfl d_M_sampleX_118 ?_
          refine lv_iload_n hx hb d_M_sampleX_121 rfl (lv_at hl 0 rfl) ?_
          refine lv_iconst (v := 1) hx hb d_M_sampleX_122 (by decide) ?_
          refine lv_isub hx hb d_M_sampleX_123 ?_
          obtain ⟨h6, hw⟩ := hw
          refine va_lald hx hb hK hP 2 1 rfl rfl h6 d_M_sampleX_124 ?_
          refine lv_aload_n hx hb d_M_sampleX_125 rfl (lv_at hl 1 rfl) ?_
          refine va_get (D := (dC, dI)) (ci := 2) (v := .ref (h 3)) (C := RM) (T := TM) (N := 15) hx hb hts i_M hown hK hP 0 rfl rfl 5 (by decide) (hts _ m_381) (fun _ h9 => h9) rfl d_M_sampleX_126 ?_
          refine lv_iload_n hx hb d_M_sampleX_129 rfl (lv_at hl 0 rfl) ?_
          obtain ⟨h7, hw⟩ := hw
          refine va_lald hx hb hK hP 3 2 rfl rfl h7 d_M_sampleX_130 ?_
          refine lv_lmul hx hb d_M_sampleX_131 ?_
          refine lv_aload_n hx hb d_M_sampleX_132 rfl (lv_at hl 1 rfl) ?_
          refine va_get (D := (dC, dI)) (ci := 2) (v := .ref (h 2)) (C := RM) (T := TM) (N := 15) hx hb hts i_M hown hK hP 0 rfl rfl 4 (by decide) (hts _ m_380) (fun _ h9 => h9) rfl d_M_sampleX_133 ?_
          refine lv_iload_n hx hb d_M_sampleX_136 rfl (lv_at hl 0 rfl) ?_
          refine va_lald hx hb hK hP 2 1 rfl rfl h7 d_M_sampleX_137 ?_
          refine lv_aload_n hx hb d_M_sampleX_138 rfl (lv_at hl 1 rfl) ?_
          refine va_get (D := (dC, dI)) (ci := 2) (v := .ref (h 3)) (C := RM) (T := TM) (N := 15) hx hb hts i_M hown hK hP 0 rfl rfl 5 (by decide) (hts _ m_381) (fun _ h9 => h9) rfl d_M_sampleX_139 ?_
          refine lv_iload_n hx hb d_M_sampleX_142 rfl (lv_at hl 0 rfl) ?_
          refine lv_iconst (v := 1) hx hb d_M_sampleX_143 (by decide) ?_
          refine lv_isub hx hb d_M_sampleX_144 ?_
          refine va_lald hx hb hK hP 3 2 rfl rfl h6 d_M_sampleX_145 ?_
          refine lv_lmul hx hb d_M_sampleX_146 ?_
          refine lv_ladd hx hb d_M_sampleX_147 ?_
          refine lv_ldc2 (v := 2) hx hb hown (hts _ m_475) d_M_sampleX_148 ?_
          refine lv_aload_n hx hb d_M_sampleX_151 rfl (lv_at hl 1 rfl) ?_
          refine va_get (D := (dC, dI)) (ci := 2) (v := .ref (h 3)) (C := RM) (T := TM) (N := 15) hx hb hts i_M hown hK hP 0 rfl rfl 5 (by decide) (hts _ m_381) (fun _ h9 => h9) rfl d_M_sampleX_152 ?_
          refine lv_iload_n hx hb d_M_sampleX_155 rfl (lv_at hl 0 rfl) ?_
          refine lv_iconst (v := 1) hx hb d_M_sampleX_156 (by decide) ?_
          refine lv_isub hx hb d_M_sampleX_157 ?_
          refine va_lald hx hb hK hP 3 2 rfl rfl h6 d_M_sampleX_158 ?_
          refine lv_lmul hx hb d_M_sampleX_159 ?_
          refine lv_aload_n hx hb d_M_sampleX_160 rfl (lv_at hl 1 rfl) ?_
          refine va_get (D := (dC, dI)) (ci := 2) (v := .ref (h 3)) (C := RM) (T := TM) (N := 15) hx hb hts i_M hown hK hP 0 rfl rfl 5 (by decide) (hts _ m_381) (fun _ h9 => h9) rfl d_M_sampleX_161 ?_
          refine lv_iload_n hx hb d_M_sampleX_164 rfl (lv_at hl 0 rfl) ?_
          refine va_lald hx hb hK hP 3 2 rfl rfl h7 d_M_sampleX_165 ?_
          refine lv_lmul hx hb d_M_sampleX_166 ?_
          have hFc := va_freeA hD hS hA
          refine va_callv (va_runV (As := [.long ((((MS.cu st) (y1 - 1).toNatClampNeg) * ((MS.cd st) y1.toNatClampNeg)) + (((MS.cu st) y1.toNatClampNeg) * ((MS.cd st) (y1 - 1).toNatClampNeg))), .long ((2 * ((MS.cd st) (y1 - 1).toNatClampNeg)) * ((MS.cd st) y1.toNatClampNeg))]) (rest := []) ⟨hx, hb, hml, hown, hts⟩ (t_M_lowest l dC dI h k _ st ((((MS.cu st) (y1 - 1).toNatClampNeg) * ((MS.cd st) y1.toNatClampNeg)) + (((MS.cu st) y1.toNatClampNeg) * ((MS.cd st) (y1 - 1).toNatClampNeg))) ((2 * ((MS.cd st) (y1 - 1).toNatClampNeg)) * ((MS.cd st) y1.toNatClampNeg)) hw) (cwV 2 hts (gV m_439 m_441 s_17 m_5 (cw_call m_442)) rfl rfl rfl (by decide +kernel) ⟨Nat.le_of_ble_eq_true rfl, Nat.le_of_ble_eq_true rfl⟩) ⟨pRw_bl, va_recv hK hP (ci := 2) (q0 := 0) rfl rfl, fun U hU hW => ⟨rfl, pRw_at hP hK hN hD hU hW⟩⟩ rfl rfl hl.1 rfl (lv_room (Nat.le_of_ble_eq_true rfl)) d_M_sampleX_167 ⟨Nat.le_of_ble_eq_true rfl, Nat.le_of_ble_eq_true rfl⟩) hS (fun q _ h => hFc q h) hFc (fun u8 t H1 locs ht hvm hw hB hz1 hk1 hS => ?_)
          obtain ⟨hP1, hD1⟩ := hB
          rw [ht] at hP1
          have hP := hP1
          have hD := hD1.weaken (fun _ q _ h => hFc q.1 h)
          generalize H1 = H at hP hS ⊢
          have hP : va_P (dC, dI) vwCl (WM h k u8) H := hP
          have hD : va_D A (WM h k u8) := hD
          refine lv_aload_n hx hb d_M_sampleX_170 rfl (lv_at hl 1 rfl) ?_
          refine lv_aload_n hx hb d_M_sampleX_171 rfl (lv_at hl 1 rfl) ?_
          refine va_get (D := (dC, dI)) (ci := 2) (v := .long (MS.up u8)) (C := RM) (T := TM) (N := 15) hx hb hts i_M hown hK hP 0 rfl rfl 9 (by decide) (hts _ m_385) (fun _ h9 => h9) rfl d_M_sampleX_172 ?_
          refine va_put (D := (dC, dI)) (ci := 2) (v := .long (MS.up u8)) (ty := .long) (C := RM) (T := TM) (N := 15) hx hb hts i_M tyM tyM_ok nmM hown hK hP hD hS 0 rfl rfl 11 (by decide) (hts _ m_387) (fun _ h9 => h9) rfl (by decide +kernel) rfl rfl (Nat.le_of_ble_eq_true rfl) d_M_sampleX_175 (fun H locs hP hD hS => ?_)
          have hP : va_P (dC, dI) vwCl [(h 0, .inr (2, [.int (MS.code u8), .int (MS.lines u8), .ref (h 1), .int (MS.cuts u8), .ref (h 2), .ref (h 3), .int (MS.curves u8), .ref (h 4), .ref (h 5), .long (MS.up u8), .long (MS.down u8), .long (MS.up u8), .long (MS.xd u8), .int (MS.strip u8), .int (MS.place u8)])), (h 1, .inl (k 1, 18, .inl (MS.num u8))), (h 2, .inl (k 2, 24, .inr (.inl (MS.cu u8)))), (h 3, .inl (k 3, 24, .inr (.inl (MS.cd u8)))), (h 4, .inl (k 4, 6, .inr (.inl (MS.yu u8)))), (h 5, .inl (k 5, 6, .inr (.inl (MS.yd u8))))] H := hP
          have hD : va_D A [(h 0, .inr (2, [.int (MS.code u8), .int (MS.lines u8), .ref (h 1), .int (MS.cuts u8), .ref (h 2), .ref (h 3), .int (MS.curves u8), .ref (h 4), .ref (h 5), .long (MS.up u8), .long (MS.down u8), .long (MS.up u8), .long (MS.xd u8), .int (MS.strip u8), .int (MS.place u8)])), (h 1, .inl (k 1, 18, .inl (MS.num u8))), (h 2, .inl (k 2, 24, .inr (.inl (MS.cu u8)))), (h 3, .inl (k 3, 24, .inr (.inl (MS.cd u8)))), (h 4, .inl (k 4, 6, .inr (.inl (MS.yu u8)))), (h 5, .inl (k 5, 6, .inr (.inl (MS.yd u8))))] := hD
          refine lv_aload_n hx hb d_M_sampleX_178 rfl (lv_at hl 1 rfl) ?_
          refine lv_aload_n hx hb d_M_sampleX_179 rfl (lv_at hl 1 rfl) ?_
          refine va_get (D := (dC, dI)) (ci := 2) (v := .long (MS.down u8)) (C := RM) (T := TM) (N := 15) hx hb hts i_M hown hK hP 0 rfl rfl 10 (by decide) (hts _ m_386) (fun _ h9 => h9) rfl d_M_sampleX_180 ?_
          refine va_put (D := (dC, dI)) (ci := 2) (v := .long (MS.down u8)) (ty := .long) (C := RM) (T := TM) (N := 15) hx hb hts i_M tyM tyM_ok nmM hown hK hP hD hS 0 rfl rfl 12 (by decide) (hts _ m_388) (fun _ h9 => h9) rfl (by decide +kernel) rfl rfl (Nat.le_of_ble_eq_true rfl) d_M_sampleX_183 (fun H locs hP hD hS => ?_)
          have hP : va_P (dC, dI) vwCl [(h 0, .inr (2, [.int (MS.code u8), .int (MS.lines u8), .ref (h 1), .int (MS.cuts u8), .ref (h 2), .ref (h 3), .int (MS.curves u8), .ref (h 4), .ref (h 5), .long (MS.up u8), .long (MS.down u8), .long (MS.up u8), .long (MS.down u8), .int (MS.strip u8), .int (MS.place u8)])), (h 1, .inl (k 1, 18, .inl (MS.num u8))), (h 2, .inl (k 2, 24, .inr (.inl (MS.cu u8)))), (h 3, .inl (k 3, 24, .inr (.inl (MS.cd u8)))), (h 4, .inl (k 4, 6, .inr (.inl (MS.yu u8)))), (h 5, .inl (k 5, 6, .inr (.inl (MS.yd u8))))] H := hP
          have hD : va_D A [(h 0, .inr (2, [.int (MS.code u8), .int (MS.lines u8), .ref (h 1), .int (MS.cuts u8), .ref (h 2), .ref (h 3), .int (MS.curves u8), .ref (h 4), .ref (h 5), .long (MS.up u8), .long (MS.down u8), .long (MS.up u8), .long (MS.down u8), .int (MS.strip u8), .int (MS.place u8)])), (h 1, .inl (k 1, 18, .inl (MS.num u8))), (h 2, .inl (k 2, 24, .inr (.inl (MS.cu u8)))), (h 3, .inl (k 3, 24, .inr (.inl (MS.cd u8)))), (h 4, .inl (k 4, 6, .inr (.inl (MS.yu u8)))), (h 5, .inl (k 5, 6, .inr (.inl (MS.yd u8))))] := hD
          have hP : va_P (dC, dI) vwCl (WM h k ((MS.code u8), (MS.lines u8), (MS.num u8), (MS.cuts u8), (MS.cu u8), (MS.cd u8), (MS.curves u8), (MS.yu u8), (MS.yd u8), (MS.up u8), (MS.down u8), (MS.up u8), (MS.down u8), (MS.strip u8), (MS.place u8))) _ := hP
          have hD : va_D A (WM h k ((MS.code u8), (MS.lines u8), (MS.num u8), (MS.cuts u8), (MS.cu u8), (MS.cd u8), (MS.curves u8), (MS.yu u8), (MS.yd u8), (MS.up u8), (MS.down u8), (MS.up u8), (MS.down u8), (MS.strip u8), (MS.place u8))) := hD
          exact W.vret hx hb hr (fun t ht hW => ⟨⟨((MS.code u8), (MS.lines u8), (MS.num u8), (MS.cuts u8), (MS.cu u8), (MS.cd u8), (MS.curves u8), (MS.yu u8), (MS.yd u8), (MS.up u8), (MS.down u8), (MS.up u8), (MS.down u8), (MS.strip u8), (MS.place u8)), rfl, hw, by rw [ht]; exact hP, hD⟩, hS.F ht⟩) hS.2.2 d_M_sampleX_186
        · skip
          have hw := hw.2 c5
          refine lv_aload_n hx hb d_M_sampleX_84 rfl (lv_at hl 1 rfl) ?_
          refine lv_aload_n hx hb d_M_sampleX_85 rfl (lv_at hl 1 rfl) ?_
          refine va_get (D := (dC, dI)) (ci := 2) (v := .ref (h 2)) (C := RM) (T := TM) (N := 15) hx hb hts i_M hown hK hP 0 rfl rfl 4 (by decide) (hts _ m_380) (fun _ h9 => h9) rfl d_M_sampleX_86 ?_
          refine lv_iload_n hx hb d_M_sampleX_89 rfl (lv_at hl 0 rfl) ?_
          refine lv_iconst (v := 1) hx hb d_M_sampleX_90 (by decide) ?_
          refine lv_isub hx hb d_M_sampleX_91 ?_
          obtain ⟨h9, hw⟩ := hw
          refine va_lald hx hb hK hP 2 1 rfl rfl h9 d_M_sampleX_92 ?_
          refine lv_aload_n hx hb d_M_sampleX_93 rfl (lv_at hl 1 rfl) ?_
          refine va_get (D := (dC, dI)) (ci := 2) (v := .ref (h 3)) (C := RM) (T := TM) (N := 15) hx hb hts i_M hown hK hP 0 rfl rfl 5 (by decide) (hts _ m_381) (fun _ h9 => h9) rfl d_M_sampleX_94 ?_
          refine lv_iload_n hx hb d_M_sampleX_97 rfl (lv_at hl 0 rfl) ?_
          refine lv_iconst (v := 1) hx hb d_M_sampleX_98 (by decide) ?_
          refine lv_isub hx hb d_M_sampleX_99 ?_
          refine va_lald hx hb hK hP 3 2 rfl rfl h9 d_M_sampleX_100 ?_
          refine lv_ladd hx hb d_M_sampleX_101 ?_
          refine lv_aload_n hx hb d_M_sampleX_102 rfl (lv_at hl 1 rfl) ?_
          refine va_get (D := (dC, dI)) (ci := 2) (v := .ref (h 3)) (C := RM) (T := TM) (N := 15) hx hb hts i_M hown hK hP 0 rfl rfl 5 (by decide) (hts _ m_381) (fun _ h9 => h9) rfl d_M_sampleX_103 ?_
          refine lv_iload_n hx hb d_M_sampleX_106 rfl (lv_at hl 0 rfl) ?_
          refine lv_iconst (v := 1) hx hb d_M_sampleX_107 (by decide) ?_
          refine lv_isub hx hb d_M_sampleX_108 ?_
          refine va_lald hx hb hK hP 3 2 rfl rfl h9 d_M_sampleX_109 ?_
          have hFc := va_freeA hD hS hA
          refine va_callv (va_runV (As := [.long (((MS.cu st) (y1 - 1).toNatClampNeg) + ((MS.cd st) (y1 - 1).toNatClampNeg)), .long ((MS.cd st) (y1 - 1).toNatClampNeg)]) (rest := []) ⟨hx, hb, hml, hown, hts⟩ (t_M_lowest l dC dI h k _ st (((MS.cu st) (y1 - 1).toNatClampNeg) + ((MS.cd st) (y1 - 1).toNatClampNeg)) ((MS.cd st) (y1 - 1).toNatClampNeg) hw) (cwV 2 hts (gV m_439 m_441 s_17 m_5 (cw_call m_442)) rfl rfl rfl (by decide +kernel) ⟨Nat.le_of_ble_eq_true rfl, Nat.le_of_ble_eq_true rfl⟩) ⟨pRw_bl, va_recv hK hP (ci := 2) (q0 := 0) rfl rfl, fun U hU hW => ⟨rfl, pRw_at hP hK hN hD hU hW⟩⟩ rfl rfl hl.1 rfl (lv_room (Nat.le_of_ble_eq_true rfl)) d_M_sampleX_110 ⟨Nat.le_of_ble_eq_true rfl, Nat.le_of_ble_eq_true rfl⟩) hS (fun q _ h => hFc q h) hFc (fun u10 t H1 locs ht hvm hw hB hz1 hk1 hS => ?_)
          obtain ⟨hP1, hD1⟩ := hB
          rw [ht] at hP1
          have hP := hP1
          have hD := hD1.weaken (fun _ q _ h => hFc q.1 h)
          generalize H1 = H at hP hS ⊢
          have hP : va_P (dC, dI) vwCl (WM h k u10) H := hP
          have hD : va_D A (WM h k u10) := hD
          refine lv_goto (tgt := 170) hx hb d_M_sampleX_113 (by decide) ?_
          refine lv_aload_n hx hb d_M_sampleX_170 rfl (lv_at hl 1 rfl) ?_
          refine lv_aload_n hx hb d_M_sampleX_171 rfl (lv_at hl 1 rfl) ?_
          refine va_get (D := (dC, dI)) (ci := 2) (v := .long (MS.up u10)) (C := RM) (T := TM) (N := 15) hx hb hts i_M hown hK hP 0 rfl rfl 9 (by decide) (hts _ m_385) (fun _ h9 => h9) rfl d_M_sampleX_172 ?_
          refine va_put (D := (dC, dI)) (ci := 2) (v := .long (MS.up u10)) (ty := .long) (C := RM) (T := TM) (N := 15) hx hb hts i_M tyM tyM_ok nmM hown hK hP hD hS 0 rfl rfl 11 (by decide) (hts _ m_387) (fun _ h9 => h9) rfl (by decide +kernel) rfl rfl (Nat.le_of_ble_eq_true rfl) d_M_sampleX_175 (fun H locs hP hD hS => ?_)
          have hP : va_P (dC, dI) vwCl [(h 0, .inr (2, [.int (MS.code u10), .int (MS.lines u10), .ref (h 1), .int (MS.cuts u10), .ref (h 2), .ref (h 3), .int (MS.curves u10), .ref (h 4), .ref (h 5), .long (MS.up u10), .long (MS.down u10), .long (MS.up u10), .long (MS.xd u10), .int (MS.strip u10), .int (MS.place u10)])), (h 1, .inl (k 1, 18, .inl (MS.num u10))), (h 2, .inl (k 2, 24, .inr (.inl (MS.cu u10)))), (h 3, .inl (k 3, 24, .inr (.inl (MS.cd u10)))), (h 4, .inl (k 4, 6, .inr (.inl (MS.yu u10)))), (h 5, .inl (k 5, 6, .inr (.inl (MS.yd u10))))] H := hP
          have hD : va_D A [(h 0, .inr (2, [.int (MS.code u10), .int (MS.lines u10), .ref (h 1), .int (MS.cuts u10), .ref (h 2), .ref (h 3), .int (MS.curves u10), .ref (h 4), .ref (h 5), .long (MS.up u10), .long (MS.down u10), .long (MS.up u10), .long (MS.xd u10), .int (MS.strip u10), .int (MS.place u10)])), (h 1, .inl (k 1, 18, .inl (MS.num u10))), (h 2, .inl (k 2, 24, .inr (.inl (MS.cu u10)))), (h 3, .inl (k 3, 24, .inr (.inl (MS.cd u10)))), (h 4, .inl (k 4, 6, .inr (.inl (MS.yu u10)))), (h 5, .inl (k 5, 6, .inr (.inl (MS.yd u10))))] := hD
          refine lv_aload_n hx hb d_M_sampleX_178 rfl (lv_at hl 1 rfl) ?_
          refine lv_aload_n hx hb d_M_sampleX_179 rfl (lv_at hl 1 rfl) ?_
          refine va_get (D := (dC, dI)) (ci := 2) (v := .long (MS.down u10)) (C := RM) (T := TM) (N := 15) hx hb hts i_M hown hK hP 0 rfl rfl 10 (by decide) (hts _ m_386) (fun _ h9 => h9) rfl d_M_sampleX_180 ?_
          refine va_put (D := (dC, dI)) (ci := 2) (v := .long (MS.down u10)) (ty := .long) (C := RM) (T := TM) (N := 15) hx hb hts i_M tyM tyM_ok nmM hown hK hP hD hS 0 rfl rfl 12 (by decide) (hts _ m_388) (fun _ h9 => h9) rfl (by decide +kernel) rfl rfl (Nat.le_of_ble_eq_true rfl) d_M_sampleX_183 (fun H locs hP hD hS => ?_)
          have hP : va_P (dC, dI) vwCl [(h 0, .inr (2, [.int (MS.code u10), .int (MS.lines u10), .ref (h 1), .int (MS.cuts u10), .ref (h 2), .ref (h 3), .int (MS.curves u10), .ref (h 4), .ref (h 5), .long (MS.up u10), .long (MS.down u10), .long (MS.up u10), .long (MS.down u10), .int (MS.strip u10), .int (MS.place u10)])), (h 1, .inl (k 1, 18, .inl (MS.num u10))), (h 2, .inl (k 2, 24, .inr (.inl (MS.cu u10)))), (h 3, .inl (k 3, 24, .inr (.inl (MS.cd u10)))), (h 4, .inl (k 4, 6, .inr (.inl (MS.yu u10)))), (h 5, .inl (k 5, 6, .inr (.inl (MS.yd u10))))] H := hP
          have hD : va_D A [(h 0, .inr (2, [.int (MS.code u10), .int (MS.lines u10), .ref (h 1), .int (MS.cuts u10), .ref (h 2), .ref (h 3), .int (MS.curves u10), .ref (h 4), .ref (h 5), .long (MS.up u10), .long (MS.down u10), .long (MS.up u10), .long (MS.down u10), .int (MS.strip u10), .int (MS.place u10)])), (h 1, .inl (k 1, 18, .inl (MS.num u10))), (h 2, .inl (k 2, 24, .inr (.inl (MS.cu u10)))), (h 3, .inl (k 3, 24, .inr (.inl (MS.cd u10)))), (h 4, .inl (k 4, 6, .inr (.inl (MS.yu u10)))), (h 5, .inl (k 5, 6, .inr (.inl (MS.yd u10))))] := hD
          have hP : va_P (dC, dI) vwCl (WM h k ((MS.code u10), (MS.lines u10), (MS.num u10), (MS.cuts u10), (MS.cu u10), (MS.cd u10), (MS.curves u10), (MS.yu u10), (MS.yd u10), (MS.up u10), (MS.down u10), (MS.up u10), (MS.down u10), (MS.strip u10), (MS.place u10))) _ := hP
          have hD : va_D A (WM h k ((MS.code u10), (MS.lines u10), (MS.num u10), (MS.cuts u10), (MS.cu u10), (MS.cd u10), (MS.curves u10), (MS.yu u10), (MS.yd u10), (MS.up u10), (MS.down u10), (MS.up u10), (MS.down u10), (MS.strip u10), (MS.place u10))) := hD
          exact W.vret hx hb hr (fun t ht hW => ⟨⟨((MS.code u10), (MS.lines u10), (MS.num u10), (MS.cuts u10), (MS.cu u10), (MS.cd u10), (MS.curves u10), (MS.yu u10), (MS.yd u10), (MS.up u10), (MS.down u10), (MS.up u10), (MS.down u10), (MS.strip u10), (MS.place u10)), rfl, hw, by rw [ht]; exact hP, hD⟩, hS.F ht⟩) hS.2.2 d_M_sampleX_186
      · skip
        have hw := hw.2 c4
        refine lv_aload_n hx hb d_M_sampleX_50 rfl (lv_at hl 1 rfl) ?_
        refine lv_aload_n hx hb d_M_sampleX_51 rfl (lv_at hl 1 rfl) ?_
        refine va_get (D := (dC, dI)) (ci := 2) (v := .ref (h 2)) (C := RM) (T := TM) (N := 15) hx hb hts i_M hown hK hP 0 rfl rfl 4 (by decide) (hts _ m_380) (fun _ h9 => h9) rfl d_M_sampleX_52 ?_
        refine lv_iconst (v := 0) hx hb d_M_sampleX_55 (by decide) ?_
        refine va_lald hx hb hK hP 2 1 rfl rfl (by unfold vp_in; decide) d_M_sampleX_56 ?_
        refine lv_aload_n hx hb d_M_sampleX_57 rfl (lv_at hl 1 rfl) ?_
        refine va_get (D := (dC, dI)) (ci := 2) (v := .ref (h 3)) (C := RM) (T := TM) (N := 15) hx hb hts i_M hown hK hP 0 rfl rfl 5 (by decide) (hts _ m_381) (fun _ h9 => h9) rfl d_M_sampleX_58 ?_
        refine lv_iconst (v := 0) hx hb d_M_sampleX_61 (by decide) ?_
        refine va_lald hx hb hK hP 3 2 rfl rfl (by unfold vp_in; decide) d_M_sampleX_62 ?_
        refine lv_lsub hx hb d_M_sampleX_63 ?_
        refine lv_aload_n hx hb d_M_sampleX_64 rfl (lv_at hl 1 rfl) ?_
        refine va_get (D := (dC, dI)) (ci := 2) (v := .ref (h 3)) (C := RM) (T := TM) (N := 15) hx hb hts i_M hown hK hP 0 rfl rfl 5 (by decide) (hts _ m_381) (fun _ h9 => h9) rfl d_M_sampleX_65 ?_
        refine lv_iconst (v := 0) hx hb d_M_sampleX_68 (by decide) ?_
        refine va_lald hx hb hK hP 3 2 rfl rfl (by unfold vp_in; decide) d_M_sampleX_69 ?_
        have hFc := va_freeA hD hS hA
        refine va_callv (va_runV (As := [.long (((MS.cu st) (0 : Int32).toNatClampNeg) - ((MS.cd st) (0 : Int32).toNatClampNeg)), .long ((MS.cd st) (0 : Int32).toNatClampNeg)]) (rest := []) ⟨hx, hb, hml, hown, hts⟩ (t_M_lowest l dC dI h k _ st (((MS.cu st) (0 : Int32).toNatClampNeg) - ((MS.cd st) (0 : Int32).toNatClampNeg)) ((MS.cd st) (0 : Int32).toNatClampNeg) hw) (cwV 2 hts (gV m_439 m_441 s_17 m_5 (cw_call m_442)) rfl rfl rfl (by decide +kernel) ⟨Nat.le_of_ble_eq_true rfl, Nat.le_of_ble_eq_true rfl⟩) ⟨pRw_bl, va_recv hK hP (ci := 2) (q0 := 0) rfl rfl, fun U hU hW => ⟨rfl, pRw_at hP hK hN hD hU hW⟩⟩ rfl rfl hl.1 rfl (lv_room (Nat.le_of_ble_eq_true rfl)) d_M_sampleX_70 ⟨Nat.le_of_ble_eq_true rfl, Nat.le_of_ble_eq_true rfl⟩) hS (fun q _ h => hFc q h) hFc (fun u11 t H1 locs ht hvm hw hB hz1 hk1 hS => ?_)
        obtain ⟨hP1, hD1⟩ := hB
        rw [ht] at hP1
        have hP := hP1
        have hD := hD1.weaken (fun _ q _ h => hFc q.1 h)
        generalize H1 = H at hP hS ⊢
        have hP : va_P (dC, dI) vwCl (WM h k u11) H := hP
        have hD : va_D A (WM h k u11) := hD
        refine lv_goto (tgt := 170) hx hb d_M_sampleX_73 (by decide) ?_
        refine lv_aload_n hx hb d_M_sampleX_170 rfl (lv_at hl 1 rfl) ?_
        refine lv_aload_n hx hb d_M_sampleX_171 rfl (lv_at hl 1 rfl) ?_
        refine va_get (D := (dC, dI)) (ci := 2) (v := .long (MS.up u11)) (C := RM) (T := TM) (N := 15) hx hb hts i_M hown hK hP 0 rfl rfl 9 (by decide) (hts _ m_385) (fun _ h9 => h9) rfl d_M_sampleX_172 ?_
        refine va_put (D := (dC, dI)) (ci := 2) (v := .long (MS.up u11)) (ty := .long) (C := RM) (T := TM) (N := 15) hx hb hts i_M tyM tyM_ok nmM hown hK hP hD hS 0 rfl rfl 11 (by decide) (hts _ m_387) (fun _ h9 => h9) rfl (by decide +kernel) rfl rfl (Nat.le_of_ble_eq_true rfl) d_M_sampleX_175 (fun H locs hP hD hS => ?_)
        have hP : va_P (dC, dI) vwCl [(h 0, .inr (2, [.int (MS.code u11), .int (MS.lines u11), .ref (h 1), .int (MS.cuts u11), .ref (h 2), .ref (h 3), .int (MS.curves u11), .ref (h 4), .ref (h 5), .long (MS.up u11), .long (MS.down u11), .long (MS.up u11), .long (MS.xd u11), .int (MS.strip u11), .int (MS.place u11)])), (h 1, .inl (k 1, 18, .inl (MS.num u11))), (h 2, .inl (k 2, 24, .inr (.inl (MS.cu u11)))), (h 3, .inl (k 3, 24, .inr (.inl (MS.cd u11)))), (h 4, .inl (k 4, 6, .inr (.inl (MS.yu u11)))), (h 5, .inl (k 5, 6, .inr (.inl (MS.yd u11))))] H := hP
        have hD : va_D A [(h 0, .inr (2, [.int (MS.code u11), .int (MS.lines u11), .ref (h 1), .int (MS.cuts u11), .ref (h 2), .ref (h 3), .int (MS.curves u11), .ref (h 4), .ref (h 5), .long (MS.up u11), .long (MS.down u11), .long (MS.up u11), .long (MS.xd u11), .int (MS.strip u11), .int (MS.place u11)])), (h 1, .inl (k 1, 18, .inl (MS.num u11))), (h 2, .inl (k 2, 24, .inr (.inl (MS.cu u11)))), (h 3, .inl (k 3, 24, .inr (.inl (MS.cd u11)))), (h 4, .inl (k 4, 6, .inr (.inl (MS.yu u11)))), (h 5, .inl (k 5, 6, .inr (.inl (MS.yd u11))))] := hD
        refine lv_aload_n hx hb d_M_sampleX_178 rfl (lv_at hl 1 rfl) ?_
        refine lv_aload_n hx hb d_M_sampleX_179 rfl (lv_at hl 1 rfl) ?_
        refine va_get (D := (dC, dI)) (ci := 2) (v := .long (MS.down u11)) (C := RM) (T := TM) (N := 15) hx hb hts i_M hown hK hP 0 rfl rfl 10 (by decide) (hts _ m_386) (fun _ h9 => h9) rfl d_M_sampleX_180 ?_
        refine va_put (D := (dC, dI)) (ci := 2) (v := .long (MS.down u11)) (ty := .long) (C := RM) (T := TM) (N := 15) hx hb hts i_M tyM tyM_ok nmM hown hK hP hD hS 0 rfl rfl 12 (by decide) (hts _ m_388) (fun _ h9 => h9) rfl (by decide +kernel) rfl rfl (Nat.le_of_ble_eq_true rfl) d_M_sampleX_183 (fun H locs hP hD hS => ?_)
        have hP : va_P (dC, dI) vwCl [(h 0, .inr (2, [.int (MS.code u11), .int (MS.lines u11), .ref (h 1), .int (MS.cuts u11), .ref (h 2), .ref (h 3), .int (MS.curves u11), .ref (h 4), .ref (h 5), .long (MS.up u11), .long (MS.down u11), .long (MS.up u11), .long (MS.down u11), .int (MS.strip u11), .int (MS.place u11)])), (h 1, .inl (k 1, 18, .inl (MS.num u11))), (h 2, .inl (k 2, 24, .inr (.inl (MS.cu u11)))), (h 3, .inl (k 3, 24, .inr (.inl (MS.cd u11)))), (h 4, .inl (k 4, 6, .inr (.inl (MS.yu u11)))), (h 5, .inl (k 5, 6, .inr (.inl (MS.yd u11))))] H := hP
        have hD : va_D A [(h 0, .inr (2, [.int (MS.code u11), .int (MS.lines u11), .ref (h 1), .int (MS.cuts u11), .ref (h 2), .ref (h 3), .int (MS.curves u11), .ref (h 4), .ref (h 5), .long (MS.up u11), .long (MS.down u11), .long (MS.up u11), .long (MS.down u11), .int (MS.strip u11), .int (MS.place u11)])), (h 1, .inl (k 1, 18, .inl (MS.num u11))), (h 2, .inl (k 2, 24, .inr (.inl (MS.cu u11)))), (h 3, .inl (k 3, 24, .inr (.inl (MS.cd u11)))), (h 4, .inl (k 4, 6, .inr (.inl (MS.yu u11)))), (h 5, .inl (k 5, 6, .inr (.inl (MS.yd u11))))] := hD
        have hP : va_P (dC, dI) vwCl (WM h k ((MS.code u11), (MS.lines u11), (MS.num u11), (MS.cuts u11), (MS.cu u11), (MS.cd u11), (MS.curves u11), (MS.yu u11), (MS.yd u11), (MS.up u11), (MS.down u11), (MS.up u11), (MS.down u11), (MS.strip u11), (MS.place u11))) _ := hP
        have hD : va_D A (WM h k ((MS.code u11), (MS.lines u11), (MS.num u11), (MS.cuts u11), (MS.cu u11), (MS.cd u11), (MS.curves u11), (MS.yu u11), (MS.yd u11), (MS.up u11), (MS.down u11), (MS.up u11), (MS.down u11), (MS.strip u11), (MS.place u11))) := hD
        exact W.vret hx hb hr (fun t ht hW => ⟨⟨((MS.code u11), (MS.lines u11), (MS.num u11), (MS.cuts u11), (MS.cu u11), (MS.cd u11), (MS.curves u11), (MS.yu u11), (MS.yd u11), (MS.up u11), (MS.down u11), (MS.up u11), (MS.down u11), (MS.strip u11), (MS.place u11)), rfl, hw, by rw [ht]; exact hP, hD⟩, hS.F ht⟩) hS.2.2 d_M_sampleX_186
    · skip
      have hw := hw.2 c3
      refine lv_aload_n hx hb d_M_sampleX_27 rfl (lv_at hl 1 rfl) ?_
      refine lv_aload_n hx hb d_M_sampleX_28 rfl (lv_at hl 1 rfl) ?_
      refine va_get (D := (dC, dI)) (ci := 2) (v := .ref (h 2)) (C := RM) (T := TM) (N := 15) hx hb hts i_M hown hK hP 0 rfl rfl 4 (by decide) (hts _ m_380) (fun _ h9 => h9) rfl d_M_sampleX_29 ?_
      refine lv_iload_n hx hb d_M_sampleX_32 rfl (lv_at hl 0 rfl) ?_
      obtain ⟨h12, hw⟩ := hw
      refine va_lald hx hb hK hP 2 1 rfl rfl h12 d_M_sampleX_33 ?_
      refine lv_aload_n hx hb d_M_sampleX_34 rfl (lv_at hl 1 rfl) ?_
      refine va_get (D := (dC, dI)) (ci := 2) (v := .ref (h 3)) (C := RM) (T := TM) (N := 15) hx hb hts i_M hown hK hP 0 rfl rfl 5 (by decide) (hts _ m_381) (fun _ h9 => h9) rfl d_M_sampleX_35 ?_
      refine lv_iload_n hx hb d_M_sampleX_38 rfl (lv_at hl 0 rfl) ?_
      refine va_lald hx hb hK hP 3 2 rfl rfl h12 d_M_sampleX_39 ?_
      have hFc := va_freeA hD hS hA
      refine va_callv (va_runV (As := [.long ((MS.cu st) y1.toNatClampNeg), .long ((MS.cd st) y1.toNatClampNeg)]) (rest := []) ⟨hx, hb, hml, hown, hts⟩ (t_M_lowest l dC dI h k _ st ((MS.cu st) y1.toNatClampNeg) ((MS.cd st) y1.toNatClampNeg) hw) (cwV 2 hts (gV m_439 m_441 s_17 m_5 (cw_call m_442)) rfl rfl rfl (by decide +kernel) ⟨Nat.le_of_ble_eq_true rfl, Nat.le_of_ble_eq_true rfl⟩) ⟨pRw_bl, va_recv hK hP (ci := 2) (q0 := 0) rfl rfl, fun U hU hW => ⟨rfl, pRw_at hP hK hN hD hU hW⟩⟩ rfl rfl hl.1 rfl (lv_room (Nat.le_of_ble_eq_true rfl)) d_M_sampleX_40 ⟨Nat.le_of_ble_eq_true rfl, Nat.le_of_ble_eq_true rfl⟩) hS (fun q _ h => hFc q h) hFc (fun u13 t H1 locs ht hvm hw hB hz1 hk1 hS => ?_)
      obtain ⟨hP1, hD1⟩ := hB
      rw [ht] at hP1
      have hP := hP1
      have hD := hD1.weaken (fun _ q _ h => hFc q.1 h)
      generalize H1 = H at hP hS ⊢
      have hP : va_P (dC, dI) vwCl (WM h k u13) H := hP
      have hD : va_D A (WM h k u13) := hD
      refine lv_goto (tgt := 170) hx hb d_M_sampleX_43 (by decide) ?_
      refine lv_aload_n hx hb d_M_sampleX_170 rfl (lv_at hl 1 rfl) ?_
      refine lv_aload_n hx hb d_M_sampleX_171 rfl (lv_at hl 1 rfl) ?_
      refine va_get (D := (dC, dI)) (ci := 2) (v := .long (MS.up u13)) (C := RM) (T := TM) (N := 15) hx hb hts i_M hown hK hP 0 rfl rfl 9 (by decide) (hts _ m_385) (fun _ h9 => h9) rfl d_M_sampleX_172 ?_
      refine va_put (D := (dC, dI)) (ci := 2) (v := .long (MS.up u13)) (ty := .long) (C := RM) (T := TM) (N := 15) hx hb hts i_M tyM tyM_ok nmM hown hK hP hD hS 0 rfl rfl 11 (by decide) (hts _ m_387) (fun _ h9 => h9) rfl (by decide +kernel) rfl rfl (Nat.le_of_ble_eq_true rfl) d_M_sampleX_175 (fun H locs hP hD hS => ?_)
      have hP : va_P (dC, dI) vwCl [(h 0, .inr (2, [.int (MS.code u13), .int (MS.lines u13), .ref (h 1), .int (MS.cuts u13), .ref (h 2), .ref (h 3), .int (MS.curves u13), .ref (h 4), .ref (h 5), .long (MS.up u13), .long (MS.down u13), .long (MS.up u13), .long (MS.xd u13), .int (MS.strip u13), .int (MS.place u13)])), (h 1, .inl (k 1, 18, .inl (MS.num u13))), (h 2, .inl (k 2, 24, .inr (.inl (MS.cu u13)))), (h 3, .inl (k 3, 24, .inr (.inl (MS.cd u13)))), (h 4, .inl (k 4, 6, .inr (.inl (MS.yu u13)))), (h 5, .inl (k 5, 6, .inr (.inl (MS.yd u13))))] H := hP
      have hD : va_D A [(h 0, .inr (2, [.int (MS.code u13), .int (MS.lines u13), .ref (h 1), .int (MS.cuts u13), .ref (h 2), .ref (h 3), .int (MS.curves u13), .ref (h 4), .ref (h 5), .long (MS.up u13), .long (MS.down u13), .long (MS.up u13), .long (MS.xd u13), .int (MS.strip u13), .int (MS.place u13)])), (h 1, .inl (k 1, 18, .inl (MS.num u13))), (h 2, .inl (k 2, 24, .inr (.inl (MS.cu u13)))), (h 3, .inl (k 3, 24, .inr (.inl (MS.cd u13)))), (h 4, .inl (k 4, 6, .inr (.inl (MS.yu u13)))), (h 5, .inl (k 5, 6, .inr (.inl (MS.yd u13))))] := hD
      refine lv_aload_n hx hb d_M_sampleX_178 rfl (lv_at hl 1 rfl) ?_
      refine lv_aload_n hx hb d_M_sampleX_179 rfl (lv_at hl 1 rfl) ?_
      refine va_get (D := (dC, dI)) (ci := 2) (v := .long (MS.down u13)) (C := RM) (T := TM) (N := 15) hx hb hts i_M hown hK hP 0 rfl rfl 10 (by decide) (hts _ m_386) (fun _ h9 => h9) rfl d_M_sampleX_180 ?_
      refine va_put (D := (dC, dI)) (ci := 2) (v := .long (MS.down u13)) (ty := .long) (C := RM) (T := TM) (N := 15) hx hb hts i_M tyM tyM_ok nmM hown hK hP hD hS 0 rfl rfl 12 (by decide) (hts _ m_388) (fun _ h9 => h9) rfl (by decide +kernel) rfl rfl (Nat.le_of_ble_eq_true rfl) d_M_sampleX_183 (fun H locs hP hD hS => ?_)
      have hP : va_P (dC, dI) vwCl [(h 0, .inr (2, [.int (MS.code u13), .int (MS.lines u13), .ref (h 1), .int (MS.cuts u13), .ref (h 2), .ref (h 3), .int (MS.curves u13), .ref (h 4), .ref (h 5), .long (MS.up u13), .long (MS.down u13), .long (MS.up u13), .long (MS.down u13), .int (MS.strip u13), .int (MS.place u13)])), (h 1, .inl (k 1, 18, .inl (MS.num u13))), (h 2, .inl (k 2, 24, .inr (.inl (MS.cu u13)))), (h 3, .inl (k 3, 24, .inr (.inl (MS.cd u13)))), (h 4, .inl (k 4, 6, .inr (.inl (MS.yu u13)))), (h 5, .inl (k 5, 6, .inr (.inl (MS.yd u13))))] H := hP
      have hD : va_D A [(h 0, .inr (2, [.int (MS.code u13), .int (MS.lines u13), .ref (h 1), .int (MS.cuts u13), .ref (h 2), .ref (h 3), .int (MS.curves u13), .ref (h 4), .ref (h 5), .long (MS.up u13), .long (MS.down u13), .long (MS.up u13), .long (MS.down u13), .int (MS.strip u13), .int (MS.place u13)])), (h 1, .inl (k 1, 18, .inl (MS.num u13))), (h 2, .inl (k 2, 24, .inr (.inl (MS.cu u13)))), (h 3, .inl (k 3, 24, .inr (.inl (MS.cd u13)))), (h 4, .inl (k 4, 6, .inr (.inl (MS.yu u13)))), (h 5, .inl (k 5, 6, .inr (.inl (MS.yd u13))))] := hD
      have hP : va_P (dC, dI) vwCl (WM h k ((MS.code u13), (MS.lines u13), (MS.num u13), (MS.cuts u13), (MS.cu u13), (MS.cd u13), (MS.curves u13), (MS.yu u13), (MS.yd u13), (MS.up u13), (MS.down u13), (MS.up u13), (MS.down u13), (MS.strip u13), (MS.place u13))) _ := hP
      have hD : va_D A (WM h k ((MS.code u13), (MS.lines u13), (MS.num u13), (MS.cuts u13), (MS.cu u13), (MS.cd u13), (MS.curves u13), (MS.yu u13), (MS.yd u13), (MS.up u13), (MS.down u13), (MS.up u13), (MS.down u13), (MS.strip u13), (MS.place u13))) := hD
      exact W.vret hx hb hr (fun t ht hW => ⟨⟨((MS.code u13), (MS.lines u13), (MS.num u13), (MS.cuts u13), (MS.cu u13), (MS.cd u13), (MS.curves u13), (MS.yu u13), (MS.yd u13), (MS.up u13), (MS.down u13), (MS.up u13), (MS.down u13), (MS.strip u13), (MS.place u13)), rfl, hw, by rw [ht]; exact hP, hD⟩, hS.F ht⟩) hS.2.2 d_M_sampleX_186
  · skip
    have hw := hw.2 c2
    refine lv_aload_n hx hb d_M_sampleX_11 rfl (lv_at hl 1 rfl) ?_
    refine lv_lconst (v := 0) hx hb d_M_sampleX_12 (by decide) ?_
    refine lv_lconst (v := 1) hx hb d_M_sampleX_13 (by decide) ?_
    have hFc := va_freeA hD hS hA
    refine va_callv (va_runV (As := [.long 0, .long 1]) (rest := []) ⟨hx, hb, hml, hown, hts⟩ (t_M_lowest l dC dI h k _ st (0 : Int64) (1 : Int64) hw) (cwV 2 hts (gV m_439 m_441 s_17 m_5 (cw_call m_442)) rfl rfl rfl (by decide +kernel) ⟨Nat.le_of_ble_eq_true rfl, Nat.le_of_ble_eq_true rfl⟩) ⟨pRw_bl, va_recv hK hP (ci := 2) (q0 := 0) rfl rfl, fun U hU hW => ⟨rfl, pRw_at hP hK hN hD hU hW⟩⟩ rfl rfl hl.1 rfl (lv_room (Nat.le_of_ble_eq_true rfl)) d_M_sampleX_14 ⟨Nat.le_of_ble_eq_true rfl, Nat.le_of_ble_eq_true rfl⟩) hS (fun q _ h => hFc q h) hFc (fun u14 t H1 locs ht hvm hw hB hz1 hk1 hS => ?_)
    obtain ⟨hP1, hD1⟩ := hB
    rw [ht] at hP1
    have hP := hP1
    have hD := hD1.weaken (fun _ q _ h => hFc q.1 h)
    generalize H1 = H at hP hS ⊢
    have hP : va_P (dC, dI) vwCl (WM h k u14) H := hP
    have hD : va_D A (WM h k u14) := hD
    refine lv_goto (tgt := 170) hx hb d_M_sampleX_17 (by decide) ?_
    refine lv_aload_n hx hb d_M_sampleX_170 rfl (lv_at hl 1 rfl) ?_
    refine lv_aload_n hx hb d_M_sampleX_171 rfl (lv_at hl 1 rfl) ?_
    refine va_get (D := (dC, dI)) (ci := 2) (v := .long (MS.up u14)) (C := RM) (T := TM) (N := 15) hx hb hts i_M hown hK hP 0 rfl rfl 9 (by decide) (hts _ m_385) (fun _ h9 => h9) rfl d_M_sampleX_172 ?_
    refine va_put (D := (dC, dI)) (ci := 2) (v := .long (MS.up u14)) (ty := .long) (C := RM) (T := TM) (N := 15) hx hb hts i_M tyM tyM_ok nmM hown hK hP hD hS 0 rfl rfl 11 (by decide) (hts _ m_387) (fun _ h9 => h9) rfl (by decide +kernel) rfl rfl (Nat.le_of_ble_eq_true rfl) d_M_sampleX_175 (fun H locs hP hD hS => ?_)
    have hP : va_P (dC, dI) vwCl [(h 0, .inr (2, [.int (MS.code u14), .int (MS.lines u14), .ref (h 1), .int (MS.cuts u14), .ref (h 2), .ref (h 3), .int (MS.curves u14), .ref (h 4), .ref (h 5), .long (MS.up u14), .long (MS.down u14), .long (MS.up u14), .long (MS.xd u14), .int (MS.strip u14), .int (MS.place u14)])), (h 1, .inl (k 1, 18, .inl (MS.num u14))), (h 2, .inl (k 2, 24, .inr (.inl (MS.cu u14)))), (h 3, .inl (k 3, 24, .inr (.inl (MS.cd u14)))), (h 4, .inl (k 4, 6, .inr (.inl (MS.yu u14)))), (h 5, .inl (k 5, 6, .inr (.inl (MS.yd u14))))] H := hP
    have hD : va_D A [(h 0, .inr (2, [.int (MS.code u14), .int (MS.lines u14), .ref (h 1), .int (MS.cuts u14), .ref (h 2), .ref (h 3), .int (MS.curves u14), .ref (h 4), .ref (h 5), .long (MS.up u14), .long (MS.down u14), .long (MS.up u14), .long (MS.xd u14), .int (MS.strip u14), .int (MS.place u14)])), (h 1, .inl (k 1, 18, .inl (MS.num u14))), (h 2, .inl (k 2, 24, .inr (.inl (MS.cu u14)))), (h 3, .inl (k 3, 24, .inr (.inl (MS.cd u14)))), (h 4, .inl (k 4, 6, .inr (.inl (MS.yu u14)))), (h 5, .inl (k 5, 6, .inr (.inl (MS.yd u14))))] := hD
    refine lv_aload_n hx hb d_M_sampleX_178 rfl (lv_at hl 1 rfl) ?_
    refine lv_aload_n hx hb d_M_sampleX_179 rfl (lv_at hl 1 rfl) ?_
    refine va_get (D := (dC, dI)) (ci := 2) (v := .long (MS.down u14)) (C := RM) (T := TM) (N := 15) hx hb hts i_M hown hK hP 0 rfl rfl 10 (by decide) (hts _ m_386) (fun _ h9 => h9) rfl d_M_sampleX_180 ?_
    refine va_put (D := (dC, dI)) (ci := 2) (v := .long (MS.down u14)) (ty := .long) (C := RM) (T := TM) (N := 15) hx hb hts i_M tyM tyM_ok nmM hown hK hP hD hS 0 rfl rfl 12 (by decide) (hts _ m_388) (fun _ h9 => h9) rfl (by decide +kernel) rfl rfl (Nat.le_of_ble_eq_true rfl) d_M_sampleX_183 (fun H locs hP hD hS => ?_)
    have hP : va_P (dC, dI) vwCl [(h 0, .inr (2, [.int (MS.code u14), .int (MS.lines u14), .ref (h 1), .int (MS.cuts u14), .ref (h 2), .ref (h 3), .int (MS.curves u14), .ref (h 4), .ref (h 5), .long (MS.up u14), .long (MS.down u14), .long (MS.up u14), .long (MS.down u14), .int (MS.strip u14), .int (MS.place u14)])), (h 1, .inl (k 1, 18, .inl (MS.num u14))), (h 2, .inl (k 2, 24, .inr (.inl (MS.cu u14)))), (h 3, .inl (k 3, 24, .inr (.inl (MS.cd u14)))), (h 4, .inl (k 4, 6, .inr (.inl (MS.yu u14)))), (h 5, .inl (k 5, 6, .inr (.inl (MS.yd u14))))] H := hP
    have hD : va_D A [(h 0, .inr (2, [.int (MS.code u14), .int (MS.lines u14), .ref (h 1), .int (MS.cuts u14), .ref (h 2), .ref (h 3), .int (MS.curves u14), .ref (h 4), .ref (h 5), .long (MS.up u14), .long (MS.down u14), .long (MS.up u14), .long (MS.down u14), .int (MS.strip u14), .int (MS.place u14)])), (h 1, .inl (k 1, 18, .inl (MS.num u14))), (h 2, .inl (k 2, 24, .inr (.inl (MS.cu u14)))), (h 3, .inl (k 3, 24, .inr (.inl (MS.cd u14)))), (h 4, .inl (k 4, 6, .inr (.inl (MS.yu u14)))), (h 5, .inl (k 5, 6, .inr (.inl (MS.yd u14))))] := hD
    have hP : va_P (dC, dI) vwCl (WM h k ((MS.code u14), (MS.lines u14), (MS.num u14), (MS.cuts u14), (MS.cu u14), (MS.cd u14), (MS.curves u14), (MS.yu u14), (MS.yd u14), (MS.up u14), (MS.down u14), (MS.up u14), (MS.down u14), (MS.strip u14), (MS.place u14))) _ := hP
    have hD : va_D A (WM h k ((MS.code u14), (MS.lines u14), (MS.num u14), (MS.cuts u14), (MS.cu u14), (MS.cd u14), (MS.curves u14), (MS.yu u14), (MS.yd u14), (MS.up u14), (MS.down u14), (MS.up u14), (MS.down u14), (MS.strip u14), (MS.place u14))) := hD
    exact W.vret hx hb hr (fun t ht hW => ⟨⟨((MS.code u14), (MS.lines u14), (MS.num u14), (MS.cuts u14), (MS.cu u14), (MS.cd u14), (MS.curves u14), (MS.yu u14), (MS.yd u14), (MS.up u14), (MS.down u14), (MS.up u14), (MS.down u14), (MS.strip u14), (MS.place u14)), rfl, hw, by rw [ht]; exact hP, hD⟩, hS.F ht⟩) hS.2.2 d_M_sampleX_186
def w_M_lineAt (st : MS) (post : MS → Prop) (p0 : Int32) : Prop := vp_in (3 * p0) 18 ∧ (vp_in ((3 * p0) + 2) 18 ∧ (vp_in ((3 * p0) + 1) 18 ∧ (w_M_lowest st (fun u4 => (post u4)) (-(((((MS.num st) (3 * p0).toNatClampNeg).toInt64) * (MS.xu st)) + ((((MS.num st) ((3 * p0) + 2).toNatClampNeg).toInt64) * (MS.xd st)))) ((((MS.num st) ((3 * p0) + 1).toNatClampNeg).toInt64) * (MS.xd st)))))
set_option maxHeartbeats 4000000 in
set_option maxRecDepth 100000 in
theorem t_M_lineAt (l : Launch) (dC : Nat → ClassId) (dI : Nat → Nat → Nat) (h : Nat → Nat) (k : Nat → ClassId) (sz : Nat) (st : MS) (p0 : Int32) {post : MS → Prop} (hw : w_M_lineAt st post p0) : Met l y_M_lineAt (Cond.code y_M_lineAt prog_4_method_15_code 2 none :: cw) ({ frames := 1, cells := 0, slots := 0, locals := 30 } : Room) (va_Pc [.ref (h 0), .int p0] (pRw (dC, dI) (WM h k st) (YM k) sz)) (va_Qv post (fun u t => va_P (dC, dI) vwCl (WM h k u) t.heap ∧ va_D (va_A (WM h k st) sz) (WM h k u)) (va_A (WM h k st) sz)) 0 0 (va_A (WM h k st) sz) := by
  refine Met.ofW (cc := prog_4_method_15_code) (maxL := 2) (ret := none) (by decide) rfl ?_
  intro p e s m args below meth c s₁ B hml hv
  obtain ⟨rfl, hsz, hP, hK, hN, hD0⟩ := hv
  have hx := B.exec
  have hb := B.bytes
  have hr := B.returns
  have hts : ∀ w ∈ cw, w.before _ s = true := fun w h => atoms_spec (ws := (Cond.code y_M_lineAt prog_4_method_15_code 2 none :: cw)) B.pre w (List.mem_cons_of_mem _ h)
  have hown : s.vm.findClass RM = some m.cls := findClass_of_methodNamed B.named
  have hlocks := B.notSynchronized
  have C0 : cxt p s m _ meth c prog_4_method_15_code 2 RM none := ⟨hx, hb, hr, hml, hown, hts, hlocks⟩
  subst hsz
  have hD := hD0.self (sz := s.heap.size)
  generalize hAe : va_A (WM h k st) s.heap.size = A at hD ⊢
  have hA : ∀ q : Nat, s.heap.size ≤ q → A q := fun q h => by rw [← hAe]; exact Or.inr h
  have hS : va_S A s.heap s.heap [] := va_S.rf
  have hl := lv_entry ([.ref (h 0), .int p0]) (n := 2) (Nat.le_of_ble_eq_true rfl)
  rw [lg_entry_eq]
  generalize (lg_sl ([.ref (h 0), .int p0]) ++ List.replicate (2 - (lg_sl ([.ref (h 0), .int p0])).length) Slot.unset).toArray = ls at hl ⊢
  have hl : lv_has ls 2 [(0, .ref (h 0)), (1, .int p0)] := hl
  unfold w_M_lineAt at hw
  refine lv_aload_n hx hb d_M_lineAt_0 rfl (lv_at hl 0 rfl) ?_
  refine lv_aload_n hx hb d_M_lineAt_1 rfl (lv_at hl 0 rfl) ?_
  refine va_get (D := (dC, dI)) (ci := 2) (v := .ref (h 1)) (C := RM) (T := TM) (N := 15) hx hb hts i_M hown hK hP 0 rfl rfl 2 (by decide) (hts _ m_378) (fun _ h9 => h9) rfl d_M_lineAt_2 ?_
  refine lv_iconst (v := 3) hx hb d_M_lineAt_5 (by decide) ?_
  refine lv_iload_n hx hb d_M_lineAt_6 rfl (lv_at hl 1 rfl) ?_
  refine lv_imul hx hb d_M_lineAt_7 ?_
  obtain ⟨h1, hw⟩ := hw
  refine va_iald hx hb hK hP 1 0 rfl rfl h1 d_M_lineAt_8 ?_
  refine lv_i2l (v := ((MS.num st) (3 * p0).toNatClampNeg).toInt64) hx hb d_M_lineAt_9 rfl ?_
  refine lv_aload_n hx hb d_M_lineAt_10 rfl (lv_at hl 0 rfl) ?_
  refine va_get (D := (dC, dI)) (ci := 2) (v := .long (MS.xu st)) (C := RM) (T := TM) (N := 15) hx hb hts i_M hown hK hP 0 rfl rfl 11 (by decide) (hts _ m_387) (fun _ h9 => h9) rfl d_M_lineAt_11 ?_
  refine lv_lmul hx hb d_M_lineAt_14 ?_
  refine lv_aload_n hx hb d_M_lineAt_15 rfl (lv_at hl 0 rfl) ?_
  refine va_get (D := (dC, dI)) (ci := 2) (v := .ref (h 1)) (C := RM) (T := TM) (N := 15) hx hb hts i_M hown hK hP 0 rfl rfl 2 (by decide) (hts _ m_378) (fun _ h9 => h9) rfl d_M_lineAt_16 ?_
  refine lv_iconst (v := 3) hx hb d_M_lineAt_19 (by decide) ?_
  refine lv_iload_n hx hb d_M_lineAt_20 rfl (lv_at hl 1 rfl) ?_
  refine lv_imul hx hb d_M_lineAt_21 ?_
  refine lv_iconst (v := 2) hx hb d_M_lineAt_22 (by decide) ?_
  refine lv_iadd hx hb d_M_lineAt_23 ?_
  obtain ⟨h2, hw⟩ := hw
  refine va_iald hx hb hK hP 1 0 rfl rfl h2 d_M_lineAt_24 ?_
  refine lv_i2l (v := ((MS.num st) ((3 * p0) + 2).toNatClampNeg).toInt64) hx hb d_M_lineAt_25 rfl ?_
  refine lv_aload_n hx hb d_M_lineAt_26 rfl (lv_at hl 0 rfl) ?_
  refine va_get (D := (dC, dI)) (ci := 2) (v := .long (MS.xd st)) (C := RM) (T := TM) (N := 15) hx hb hts i_M hown hK hP 0 rfl rfl 12 (by decide) (hts _ m_388) (fun _ h9 => h9) rfl d_M_lineAt_27 ?_
  refine lv_lmul hx hb d_M_lineAt_30 ?_
  refine lv_ladd hx hb d_M_lineAt_31 ?_
  refine lv_lneg hx hb d_M_lineAt_32 ?_
  refine lv_aload_n hx hb d_M_lineAt_33 rfl (lv_at hl 0 rfl) ?_
  refine va_get (D := (dC, dI)) (ci := 2) (v := .ref (h 1)) (C := RM) (T := TM) (N := 15) hx hb hts i_M hown hK hP 0 rfl rfl 2 (by decide) (hts _ m_378) (fun _ h9 => h9) rfl d_M_lineAt_34 ?_
  refine lv_iconst (v := 3) hx hb d_M_lineAt_37 (by decide) ?_
  refine lv_iload_n hx hb d_M_lineAt_38 rfl (lv_at hl 1 rfl) ?_
  refine lv_imul hx hb d_M_lineAt_39 ?_
  refine lv_iconst (v := 1) hx hb d_M_lineAt_40 (by decide) ?_
  refine lv_iadd hx hb d_M_lineAt_41 ?_
  obtain ⟨h3, hw⟩ := hw
  refine va_iald hx hb hK hP 1 0 rfl rfl h3 d_M_lineAt_42 ?_
  refine lv_i2l (v := ((MS.num st) ((3 * p0) + 1).toNatClampNeg).toInt64) hx hb d_M_lineAt_43 rfl ?_
  refine lv_aload_n hx hb d_M_lineAt_44 rfl (lv_at hl 0 rfl) ?_
  refine va_get (D := (dC, dI)) (ci := 2) (v := .long (MS.xd st)) (C := RM) (T := TM) (N := 15) hx hb hts i_M hown hK hP 0 rfl rfl 12 (by decide) (hts _ m_388) (fun _ h9 => h9) rfl d_M_lineAt_45 ?_
  refine lv_lmul hx hb d_M_lineAt_48 ?_
  have hFc := va_freeA hD hS hA
  refine va_callv (va_runV (As := [.long (-(((((MS.num st) (3 * p0).toNatClampNeg).toInt64) * (MS.xu st)) + ((((MS.num st) ((3 * p0) + 2).toNatClampNeg).toInt64) * (MS.xd st)))), .long ((((MS.num st) ((3 * p0) + 1).toNatClampNeg).toInt64) * (MS.xd st))]) (rest := []) ⟨hx, hb, hml, hown, hts⟩ (t_M_lowest l dC dI h k _ st (-(((((MS.num st) (3 * p0).toNatClampNeg).toInt64) * (MS.xu st)) + ((((MS.num st) ((3 * p0) + 2).toNatClampNeg).toInt64) * (MS.xd st)))) ((((MS.num st) ((3 * p0) + 1).toNatClampNeg).toInt64) * (MS.xd st)) hw) (cwV 2 hts (gV m_439 m_441 s_17 m_5 (cw_call m_442)) rfl rfl rfl (by decide +kernel) ⟨Nat.le_of_ble_eq_true rfl, Nat.le_of_ble_eq_true rfl⟩) ⟨pRw_bl, va_recv hK hP (ci := 2) (q0 := 0) rfl rfl, fun U hU hW => ⟨rfl, pRw_at hP hK hN hD hU hW⟩⟩ rfl rfl hl.1 rfl (lv_room (Nat.le_of_ble_eq_true rfl)) d_M_lineAt_49 ⟨Nat.le_of_ble_eq_true rfl, Nat.le_of_ble_eq_true rfl⟩) hS (fun q _ h => hFc q h) hFc (fun u4 t H1 locs ht hvm hw hB hz1 hk1 hS => ?_)
  obtain ⟨hP1, hD1⟩ := hB
  rw [ht] at hP1
  have hP := hP1
  have hD := hD1.weaken (fun _ q _ h => hFc q.1 h)
  generalize H1 = H at hP hS ⊢
  have hP : va_P (dC, dI) vwCl (WM h k u4) H := hP
  have hD : va_D A (WM h k u4) := hD
  exact W.vret hx hb hr (fun t ht hW => ⟨⟨u4, rfl, hw, by rw [ht]; exact hP, hD⟩, hS.F ht⟩) hS.2.2 d_M_lineAt_52
def w_M_findCurves_85 (post : MS → Prop) (K7 : MS → Int32 → Prop) : Nat → MS → Int32 → Int32 → Int32 → Prop
  | 0, _, _, _, _ => False
  | n + 1, st, v1, v2, v3 => (v3 ≤ v2 → (vp_in v2 6 ∧ (K7 ((MS.code st), (MS.lines st), (MS.num st), (MS.cuts st), (MS.cu st), (MS.cd st), ((MS.curves st) + 1), (vp_updL (MS.yu st) v2.toNatClampNeg (MS.up st)), (vp_updL (MS.yd st) v2.toNatClampNeg (MS.down st)), (MS.up st), (MS.down st), (MS.xu st), (MS.xd st), (MS.strip st), (MS.place st)) (v1 + 1)))) ∧ (¬ v3 ≤ v2 → (vp_in (v3 - 1) 6 ∧ (vp_in v3 6 ∧ (w_M_findCurves_85 post K7 n ((MS.code st), (MS.lines st), (MS.num st), (MS.cuts st), (MS.cu st), (MS.cd st), (MS.curves st), (vp_updL (MS.yu st) v3.toNatClampNeg ((MS.yu st) (v3 - 1).toNatClampNeg)), (vp_updL (MS.yd st) v3.toNatClampNeg ((MS.yd st) (v3 - 1).toNatClampNeg)), (MS.up st), (MS.down st), (MS.xu st), (MS.xd st), (MS.strip st), (MS.place st)) v1 v2 (v3 + (-1))))))
set_option maxHeartbeats 4000000 in
set_option maxRecDepth 100000 in
theorem k_M_findCurves_85 {p : Program} {l : Launch} {e : Env} {s : State} {m : MethodId} {args : Array Value} {below : List Frame} {meth : Method} {c : Code} {dC : Nat → ClassId} {dI : Nat → Nat → Nat} {h : Nat → Nat} {k : Nat → ClassId} {A : Nat → Prop} {post : MS → Prop} {K7 : MS → Int32 → Prop} (C0 : cxt p s m args meth c prog_4_method_16_code 4 RM none) (hK : va_K (dC, dI) vwCl (YM k) s) (hN : va_Nw nestW s) (hA : ∀ q, s.heap.size ≤ q → A q) (hK7 : ∀ (st : MS) (v1 : Int32) (H : Heap) (locs : List Loc), va_P (dC, dI) vwCl (WM h k st) H → va_D A (WM h k st) → va_S A s.heap H locs → ∀ ls, lv_has ls 4 [(0, .ref (h 0)), (1, .int v1)] → K7 st v1 → W p l e ({ frames := 2, cells := 0, slots := 0, locals := 51 } : Room) s m args below meth c H locs 0 0 (MQ below (va_Qv post (fun u t => va_P (dC, dI) vwCl (WM h k u) t.heap ∧ va_D A (WM h k u)) A) args s 0 0 A) (F0 m 7 ls [])) : ∀ (n : Nat), ∀ (st : MS) (v1 : Int32) (v2 : Int32) (v3 : Int32) (H : Heap) (locs : List Loc), va_P (dC, dI) vwCl (WM h k st) H → va_D A (WM h k st) → va_S A s.heap H locs → ∀ ls, lv_has ls 4 [(0, .ref (h 0)), (1, .int v1), (2, .int v2), (3, .int v3)] → w_M_findCurves_85 post K7 n st v1 v2 v3 → W p l e ({ frames := 2, cells := 0, slots := 0, locals := 51 } : Room) s m args below meth c H locs 0 0 (MQ below (va_Qv post (fun u t => va_P (dC, dI) vwCl (WM h k u) t.heap ∧ va_D A (WM h k u)) A) args s 0 0 A) (F0 m 85 ls []) := by
  obtain ⟨hx, hb, hr, hml, hown, hts, hlocks⟩ := id C0
  intro n
  induction n with
  | zero =>
    intro st v1 v2 v3 H locs hP hD hS ls hl hw
    exact False.elim hw
  | succ n ih =>
    intro st v1 v2 v3 H locs hP hD hS ls hl hw
    rw [w_M_findCurves_85] at hw
    refine lv_iload_n hx hb d_M_findCurves_85 rfl (lv_at hl 3 rfl) ?_
    refine lv_iload_n hx hb d_M_findCurves_86 rfl (lv_at hl 2 rfl) ?_
    refine lv_icmp_le (tgt := 124) hx hb d_M_findCurves_87 (by decide) (fun c17 => ?_) (fun c17 => ?_)
    · skip
      have hw := hw.1 c17
      refine lv_aload_n hx hb d_M_findCurves_124 rfl (lv_at hl 0 rfl) ?_
      refine va_get (D := (dC, dI)) (ci := 2) (v := .ref (h 4)) (C := RM) (T := TM) (N := 15) hx hb hts i_M hown hK hP 0 rfl rfl 7 (by decide) (hts _ m_383) (fun _ h9 => h9) rfl d_M_findCurves_125 ?_
      refine lv_iload_n hx hb d_M_findCurves_128 rfl (lv_at hl 2 rfl) ?_
      refine lv_aload_n hx hb d_M_findCurves_129 rfl (lv_at hl 0 rfl) ?_
      refine va_get (D := (dC, dI)) (ci := 2) (v := .long (MS.up st)) (C := RM) (T := TM) (N := 15) hx hb hts i_M hown hK hP 0 rfl rfl 9 (by decide) (hts _ m_385) (fun _ h9 => h9) rfl d_M_findCurves_130 ?_
      obtain ⟨h18, hw⟩ := hw
      refine va_last hx hb hK hP hD hS 4 3 rfl rfl h18 d_M_findCurves_133 (fun H locs hP hD hS => ?_)
      have hP : va_P (dC, dI) vwCl [(h 0, .inr (2, [.int (MS.code st), .int (MS.lines st), .ref (h 1), .int (MS.cuts st), .ref (h 2), .ref (h 3), .int (MS.curves st), .ref (h 4), .ref (h 5), .long (MS.up st), .long (MS.down st), .long (MS.xu st), .long (MS.xd st), .int (MS.strip st), .int (MS.place st)])), (h 1, .inl (k 1, 18, .inl (MS.num st))), (h 2, .inl (k 2, 24, .inr (.inl (MS.cu st)))), (h 3, .inl (k 3, 24, .inr (.inl (MS.cd st)))), (h 4, .inl (k 4, 6, .inr (.inl (vp_updL (MS.yu st) v2.toNatClampNeg (MS.up st))))), (h 5, .inl (k 5, 6, .inr (.inl (MS.yd st))))] H := hP
      have hD : va_D A [(h 0, .inr (2, [.int (MS.code st), .int (MS.lines st), .ref (h 1), .int (MS.cuts st), .ref (h 2), .ref (h 3), .int (MS.curves st), .ref (h 4), .ref (h 5), .long (MS.up st), .long (MS.down st), .long (MS.xu st), .long (MS.xd st), .int (MS.strip st), .int (MS.place st)])), (h 1, .inl (k 1, 18, .inl (MS.num st))), (h 2, .inl (k 2, 24, .inr (.inl (MS.cu st)))), (h 3, .inl (k 3, 24, .inr (.inl (MS.cd st)))), (h 4, .inl (k 4, 6, .inr (.inl (vp_updL (MS.yu st) v2.toNatClampNeg (MS.up st))))), (h 5, .inl (k 5, 6, .inr (.inl (MS.yd st))))] := hD
      refine lv_aload_n hx hb d_M_findCurves_134 rfl (lv_at hl 0 rfl) ?_
      refine va_get (D := (dC, dI)) (ci := 2) (v := .ref (h 5)) (C := RM) (T := TM) (N := 15) hx hb hts i_M hown hK hP 0 rfl rfl 8 (by decide) (hts _ m_384) (fun _ h9 => h9) rfl d_M_findCurves_135 ?_
      refine lv_iload_n hx hb d_M_findCurves_138 rfl (lv_at hl 2 rfl) ?_
      refine lv_aload_n hx hb d_M_findCurves_139 rfl (lv_at hl 0 rfl) ?_
      refine va_get (D := (dC, dI)) (ci := 2) (v := .long (MS.down st)) (C := RM) (T := TM) (N := 15) hx hb hts i_M hown hK hP 0 rfl rfl 10 (by decide) (hts _ m_386) (fun _ h9 => h9) rfl d_M_findCurves_140 ?_
      refine va_last hx hb hK hP hD hS 5 4 rfl rfl h18 d_M_findCurves_143 (fun H locs hP hD hS => ?_)
      have hP : va_P (dC, dI) vwCl [(h 0, .inr (2, [.int (MS.code st), .int (MS.lines st), .ref (h 1), .int (MS.cuts st), .ref (h 2), .ref (h 3), .int (MS.curves st), .ref (h 4), .ref (h 5), .long (MS.up st), .long (MS.down st), .long (MS.xu st), .long (MS.xd st), .int (MS.strip st), .int (MS.place st)])), (h 1, .inl (k 1, 18, .inl (MS.num st))), (h 2, .inl (k 2, 24, .inr (.inl (MS.cu st)))), (h 3, .inl (k 3, 24, .inr (.inl (MS.cd st)))), (h 4, .inl (k 4, 6, .inr (.inl (vp_updL (MS.yu st) v2.toNatClampNeg (MS.up st))))), (h 5, .inl (k 5, 6, .inr (.inl (vp_updL (MS.yd st) v2.toNatClampNeg (MS.down st)))))] H := hP
      have hD : va_D A [(h 0, .inr (2, [.int (MS.code st), .int (MS.lines st), .ref (h 1), .int (MS.cuts st), .ref (h 2), .ref (h 3), .int (MS.curves st), .ref (h 4), .ref (h 5), .long (MS.up st), .long (MS.down st), .long (MS.xu st), .long (MS.xd st), .int (MS.strip st), .int (MS.place st)])), (h 1, .inl (k 1, 18, .inl (MS.num st))), (h 2, .inl (k 2, 24, .inr (.inl (MS.cu st)))), (h 3, .inl (k 3, 24, .inr (.inl (MS.cd st)))), (h 4, .inl (k 4, 6, .inr (.inl (vp_updL (MS.yu st) v2.toNatClampNeg (MS.up st))))), (h 5, .inl (k 5, 6, .inr (.inl (vp_updL (MS.yd st) v2.toNatClampNeg (MS.down st)))))] := hD
      refine lv_aload_n hx hb d_M_findCurves_144 rfl (lv_at hl 0 rfl) ?_
      refine lv_dup hx hb d_M_findCurves_145 rfl ?_
      refine va_get (D := (dC, dI)) (ci := 2) (v := .int (MS.curves st)) (C := RM) (T := TM) (N := 15) hx hb hts i_M hown hK hP 0 rfl rfl 6 (by decide) (hts _ m_382) (fun _ h9 => h9) rfl d_M_findCurves_146 ?_
      refine lv_iconst (v := 1) hx hb d_M_findCurves_149 (by decide) ?_
      refine lv_iadd hx hb d_M_findCurves_150 ?_
      refine va_put (D := (dC, dI)) (ci := 2) (v := .int ((MS.curves st) + 1)) (ty := .int) (C := RM) (T := TM) (N := 15) hx hb hts i_M tyM tyM_ok nmM hown hK hP hD hS 0 rfl rfl 6 (by decide) (hts _ m_382) (fun _ h9 => h9) rfl (by decide +kernel) rfl rfl (Nat.le_of_ble_eq_true rfl) d_M_findCurves_151 (fun H locs hP hD hS => ?_)
      have hP : va_P (dC, dI) vwCl [(h 0, .inr (2, [.int (MS.code st), .int (MS.lines st), .ref (h 1), .int (MS.cuts st), .ref (h 2), .ref (h 3), .int ((MS.curves st) + 1), .ref (h 4), .ref (h 5), .long (MS.up st), .long (MS.down st), .long (MS.xu st), .long (MS.xd st), .int (MS.strip st), .int (MS.place st)])), (h 1, .inl (k 1, 18, .inl (MS.num st))), (h 2, .inl (k 2, 24, .inr (.inl (MS.cu st)))), (h 3, .inl (k 3, 24, .inr (.inl (MS.cd st)))), (h 4, .inl (k 4, 6, .inr (.inl (vp_updL (MS.yu st) v2.toNatClampNeg (MS.up st))))), (h 5, .inl (k 5, 6, .inr (.inl (vp_updL (MS.yd st) v2.toNatClampNeg (MS.down st)))))] H := hP
      have hD : va_D A [(h 0, .inr (2, [.int (MS.code st), .int (MS.lines st), .ref (h 1), .int (MS.cuts st), .ref (h 2), .ref (h 3), .int ((MS.curves st) + 1), .ref (h 4), .ref (h 5), .long (MS.up st), .long (MS.down st), .long (MS.xu st), .long (MS.xd st), .int (MS.strip st), .int (MS.place st)])), (h 1, .inl (k 1, 18, .inl (MS.num st))), (h 2, .inl (k 2, 24, .inr (.inl (MS.cu st)))), (h 3, .inl (k 3, 24, .inr (.inl (MS.cd st)))), (h 4, .inl (k 4, 6, .inr (.inl (vp_updL (MS.yu st) v2.toNatClampNeg (MS.up st))))), (h 5, .inl (k 5, 6, .inr (.inl (vp_updL (MS.yd st) v2.toNatClampNeg (MS.down st)))))] := hD
      refine lv_iinc (v := (v1 + 1)) (lv' := [(1, .int (v1 + 1)), (0, .ref (h 0)), (2, .int v2), (3, .int v3)]) hx hb d_M_findCurves_154 hl (k := 1) rfl rfl (by decide) rfl (fun ls hl => ?_)
      refine lv_goto (tgt := 7) hx hb d_M_findCurves_157 (by decide) ?_
      have hP : va_P (dC, dI) vwCl (WM h k ((MS.code st), (MS.lines st), (MS.num st), (MS.cuts st), (MS.cu st), (MS.cd st), ((MS.curves st) + 1), (vp_updL (MS.yu st) v2.toNatClampNeg (MS.up st)), (vp_updL (MS.yd st) v2.toNatClampNeg (MS.down st)), (MS.up st), (MS.down st), (MS.xu st), (MS.xd st), (MS.strip st), (MS.place st))) _ := hP
      have hD : va_D A (WM h k ((MS.code st), (MS.lines st), (MS.num st), (MS.cuts st), (MS.cu st), (MS.cd st), ((MS.curves st) + 1), (vp_updL (MS.yu st) v2.toNatClampNeg (MS.up st)), (vp_updL (MS.yd st) v2.toNatClampNeg (MS.down st)), (MS.up st), (MS.down st), (MS.xu st), (MS.xd st), (MS.strip st), (MS.place st))) := hD
      exact hK7 ((MS.code st), (MS.lines st), (MS.num st), (MS.cuts st), (MS.cu st), (MS.cd st), ((MS.curves st) + 1), (vp_updL (MS.yu st) v2.toNatClampNeg (MS.up st)), (vp_updL (MS.yd st) v2.toNatClampNeg (MS.down st)), (MS.up st), (MS.down st), (MS.xu st), (MS.xd st), (MS.strip st), (MS.place st)) (v1 + 1) _ _ hP hD hS ls (lv_sub hl [1, 0] rfl) hw
    · skip
      have hw := hw.2 c17
      refine lv_aload_n hx hb d_M_findCurves_90 rfl (lv_at hl 0 rfl) ?_
      refine va_get (D := (dC, dI)) (ci := 2) (v := .ref (h 4)) (C := RM) (T := TM) (N := 15) hx hb hts i_M hown hK hP 0 rfl rfl 7 (by decide) (hts _ m_383) (fun _ h9 => h9) rfl d_M_findCurves_91 ?_
      refine lv_iload_n hx hb d_M_findCurves_94 rfl (lv_at hl 3 rfl) ?_
      refine lv_aload_n hx hb d_M_findCurves_95 rfl (lv_at hl 0 rfl) ?_
      refine va_get (D := (dC, dI)) (ci := 2) (v := .ref (h 4)) (C := RM) (T := TM) (N := 15) hx hb hts i_M hown hK hP 0 rfl rfl 7 (by decide) (hts _ m_383) (fun _ h9 => h9) rfl d_M_findCurves_96 ?_
      refine lv_iload_n hx hb d_M_findCurves_99 rfl (lv_at hl 3 rfl) ?_
      refine lv_iconst (v := 1) hx hb d_M_findCurves_100 (by decide) ?_
      refine lv_isub hx hb d_M_findCurves_101 ?_
      obtain ⟨h19, hw⟩ := hw
      refine va_lald hx hb hK hP 4 3 rfl rfl h19 d_M_findCurves_102 ?_
      obtain ⟨h20, hw⟩ := hw
      refine va_last hx hb hK hP hD hS 4 3 rfl rfl h20 d_M_findCurves_103 (fun H locs hP hD hS => ?_)
      have hP : va_P (dC, dI) vwCl [(h 0, .inr (2, [.int (MS.code st), .int (MS.lines st), .ref (h 1), .int (MS.cuts st), .ref (h 2), .ref (h 3), .int (MS.curves st), .ref (h 4), .ref (h 5), .long (MS.up st), .long (MS.down st), .long (MS.xu st), .long (MS.xd st), .int (MS.strip st), .int (MS.place st)])), (h 1, .inl (k 1, 18, .inl (MS.num st))), (h 2, .inl (k 2, 24, .inr (.inl (MS.cu st)))), (h 3, .inl (k 3, 24, .inr (.inl (MS.cd st)))), (h 4, .inl (k 4, 6, .inr (.inl (vp_updL (MS.yu st) v3.toNatClampNeg ((MS.yu st) (v3 - 1).toNatClampNeg))))), (h 5, .inl (k 5, 6, .inr (.inl (MS.yd st))))] H := hP
      have hD : va_D A [(h 0, .inr (2, [.int (MS.code st), .int (MS.lines st), .ref (h 1), .int (MS.cuts st), .ref (h 2), .ref (h 3), .int (MS.curves st), .ref (h 4), .ref (h 5), .long (MS.up st), .long (MS.down st), .long (MS.xu st), .long (MS.xd st), .int (MS.strip st), .int (MS.place st)])), (h 1, .inl (k 1, 18, .inl (MS.num st))), (h 2, .inl (k 2, 24, .inr (.inl (MS.cu st)))), (h 3, .inl (k 3, 24, .inr (.inl (MS.cd st)))), (h 4, .inl (k 4, 6, .inr (.inl (vp_updL (MS.yu st) v3.toNatClampNeg ((MS.yu st) (v3 - 1).toNatClampNeg))))), (h 5, .inl (k 5, 6, .inr (.inl (MS.yd st))))] := hD
      refine lv_aload_n hx hb d_M_findCurves_104 rfl (lv_at hl 0 rfl) ?_
      refine va_get (D := (dC, dI)) (ci := 2) (v := .ref (h 5)) (C := RM) (T := TM) (N := 15) hx hb hts i_M hown hK hP 0 rfl rfl 8 (by decide) (hts _ m_384) (fun _ h9 => h9) rfl d_M_findCurves_105 ?_
      refine lv_iload_n hx hb d_M_findCurves_108 rfl (lv_at hl 3 rfl) ?_
      refine lv_aload_n hx hb d_M_findCurves_109 rfl (lv_at hl 0 rfl) ?_
      refine va_get (D := (dC, dI)) (ci := 2) (v := .ref (h 5)) (C := RM) (T := TM) (N := 15) hx hb hts i_M hown hK hP 0 rfl rfl 8 (by decide) (hts _ m_384) (fun _ h9 => h9) rfl d_M_findCurves_110 ?_
      refine lv_iload_n hx hb d_M_findCurves_113 rfl (lv_at hl 3 rfl) ?_
      refine lv_iconst (v := 1) hx hb d_M_findCurves_114 (by decide) ?_
      refine lv_isub hx hb d_M_findCurves_115 ?_
      refine va_lald hx hb hK hP 5 4 rfl rfl h19 d_M_findCurves_116 ?_
      refine va_last hx hb hK hP hD hS 5 4 rfl rfl h20 d_M_findCurves_117 (fun H locs hP hD hS => ?_)
      have hP : va_P (dC, dI) vwCl [(h 0, .inr (2, [.int (MS.code st), .int (MS.lines st), .ref (h 1), .int (MS.cuts st), .ref (h 2), .ref (h 3), .int (MS.curves st), .ref (h 4), .ref (h 5), .long (MS.up st), .long (MS.down st), .long (MS.xu st), .long (MS.xd st), .int (MS.strip st), .int (MS.place st)])), (h 1, .inl (k 1, 18, .inl (MS.num st))), (h 2, .inl (k 2, 24, .inr (.inl (MS.cu st)))), (h 3, .inl (k 3, 24, .inr (.inl (MS.cd st)))), (h 4, .inl (k 4, 6, .inr (.inl (vp_updL (MS.yu st) v3.toNatClampNeg ((MS.yu st) (v3 - 1).toNatClampNeg))))), (h 5, .inl (k 5, 6, .inr (.inl (vp_updL (MS.yd st) v3.toNatClampNeg ((MS.yd st) (v3 - 1).toNatClampNeg)))))] H := hP
      have hD : va_D A [(h 0, .inr (2, [.int (MS.code st), .int (MS.lines st), .ref (h 1), .int (MS.cuts st), .ref (h 2), .ref (h 3), .int (MS.curves st), .ref (h 4), .ref (h 5), .long (MS.up st), .long (MS.down st), .long (MS.xu st), .long (MS.xd st), .int (MS.strip st), .int (MS.place st)])), (h 1, .inl (k 1, 18, .inl (MS.num st))), (h 2, .inl (k 2, 24, .inr (.inl (MS.cu st)))), (h 3, .inl (k 3, 24, .inr (.inl (MS.cd st)))), (h 4, .inl (k 4, 6, .inr (.inl (vp_updL (MS.yu st) v3.toNatClampNeg ((MS.yu st) (v3 - 1).toNatClampNeg))))), (h 5, .inl (k 5, 6, .inr (.inl (vp_updL (MS.yd st) v3.toNatClampNeg ((MS.yd st) (v3 - 1).toNatClampNeg)))))] := hD
      refine lv_iinc (v := (v3 + (-1))) (lv' := [(3, .int (v3 + (-1))), (0, .ref (h 0)), (1, .int v1), (2, .int v2)]) hx hb d_M_findCurves_118 hl (k := 3) rfl rfl (by decide) rfl (fun ls hl => ?_)
      refine lv_goto (tgt := 85) hx hb d_M_findCurves_121 (by decide) ?_
      have hP : va_P (dC, dI) vwCl (WM h k ((MS.code st), (MS.lines st), (MS.num st), (MS.cuts st), (MS.cu st), (MS.cd st), (MS.curves st), (vp_updL (MS.yu st) v3.toNatClampNeg ((MS.yu st) (v3 - 1).toNatClampNeg)), (vp_updL (MS.yd st) v3.toNatClampNeg ((MS.yd st) (v3 - 1).toNatClampNeg)), (MS.up st), (MS.down st), (MS.xu st), (MS.xd st), (MS.strip st), (MS.place st))) _ := hP
      have hD : va_D A (WM h k ((MS.code st), (MS.lines st), (MS.num st), (MS.cuts st), (MS.cu st), (MS.cd st), (MS.curves st), (vp_updL (MS.yu st) v3.toNatClampNeg ((MS.yu st) (v3 - 1).toNatClampNeg)), (vp_updL (MS.yd st) v3.toNatClampNeg ((MS.yd st) (v3 - 1).toNatClampNeg)), (MS.up st), (MS.down st), (MS.xu st), (MS.xd st), (MS.strip st), (MS.place st))) := hD
      exact ih ((MS.code st), (MS.lines st), (MS.num st), (MS.cuts st), (MS.cu st), (MS.cd st), (MS.curves st), (vp_updL (MS.yu st) v3.toNatClampNeg ((MS.yu st) (v3 - 1).toNatClampNeg)), (vp_updL (MS.yd st) v3.toNatClampNeg ((MS.yd st) (v3 - 1).toNatClampNeg)), (MS.up st), (MS.down st), (MS.xu st), (MS.xd st), (MS.strip st), (MS.place st)) v1 v2 (v3 + (-1)) _ _ hP hD hS ls (lv_sub hl [1, 2, 3, 0] rfl) hw
def w_M_findCurves_7 (post : MS → Prop) : Nat → MS → Int32 → Prop
  | 0, _, _ => False
  | n + 1, st, v1 => ((MS.lines st) ≤ v1 → (post st)) ∧ (¬ (MS.lines st) ≤ v1 → (vp_in ((3 * v1) + 1) 18 ∧ ((¬ ((MS.num st) ((3 * v1) + 1).toNatClampNeg) = 0 → (w_M_lineAt st (fun u5 => (w_M_below u5 (fun r6 => (((MS.curves u5) ≤ r6 → (∀ y8 : Int32, y8 = (MS.curves u5) → (∃ z, w_M_findCurves_85 post (fun a0 a1 => w_M_findCurves_7 post n a0 a1) z u5 v1 r6 y8))) ∧ (¬ (MS.curves u5) ≤ r6 → (vp_in r6 6 ∧ ((¬ ((MS.yu u5) r6.toNatClampNeg) = (MS.up u5) → (∀ y12 : Int32, y12 = (MS.curves u5) → (∃ z, w_M_findCurves_85 post (fun a0 a1 => w_M_findCurves_7 post n a0 a1) z u5 v1 r6 y12))) ∧ (((MS.yu u5) r6.toNatClampNeg) = (MS.up u5) → ((¬ ((MS.yd u5) r6.toNatClampNeg) = (MS.down u5) → (∀ y15 : Int32, y15 = (MS.curves u5) → (∃ z, w_M_findCurves_85 post (fun a0 a1 => w_M_findCurves_7 post n a0 a1) z u5 v1 r6 y15))) ∧ (((MS.yd u5) r6.toNatClampNeg) = (MS.down u5) → (w_M_findCurves_7 post n u5 (v1 + 1)))))))))) )) v1)) ∧ (((MS.num st) ((3 * v1) + 1).toNatClampNeg) = 0 → (w_M_findCurves_7 post n st (v1 + 1))))))
set_option maxHeartbeats 4000000 in
set_option maxRecDepth 100000 in
theorem k_M_findCurves_7 {p : Program} {l : Launch} {e : Env} {s : State} {m : MethodId} {args : Array Value} {below : List Frame} {meth : Method} {c : Code} {dC : Nat → ClassId} {dI : Nat → Nat → Nat} {h : Nat → Nat} {k : Nat → ClassId} {A : Nat → Prop} {post : MS → Prop} (C0 : cxt p s m args meth c prog_4_method_16_code 4 RM none) (hK : va_K (dC, dI) vwCl (YM k) s) (hN : va_Nw nestW s) (hA : ∀ q, s.heap.size ≤ q → A q) : ∀ (n : Nat), ∀ (st : MS) (v1 : Int32) (H : Heap) (locs : List Loc), va_P (dC, dI) vwCl (WM h k st) H → va_D A (WM h k st) → va_S A s.heap H locs → ∀ ls, lv_has ls 4 [(0, .ref (h 0)), (1, .int v1)] → w_M_findCurves_7 post n st v1 → W p l e ({ frames := 2, cells := 0, slots := 0, locals := 51 } : Room) s m args below meth c H locs 0 0 (MQ below (va_Qv post (fun u t => va_P (dC, dI) vwCl (WM h k u) t.heap ∧ va_D A (WM h k u)) A) args s 0 0 A) (F0 m 7 ls []) := by
  obtain ⟨hx, hb, hr, hml, hown, hts, hlocks⟩ := id C0
  intro n
  induction n with
  | zero =>
    intro st v1 H locs hP hD hS ls hl hw
    exact False.elim hw
  | succ n ih =>
    intro st v1 H locs hP hD hS ls hl hw
    rw [w_M_findCurves_7] at hw
    refine lv_iload_n hx hb d_M_findCurves_7 rfl (lv_at hl 1 rfl) ?_
    refine lv_aload_n hx hb d_M_findCurves_8 rfl (lv_at hl 0 rfl) ?_
    refine va_get (D := (dC, dI)) (ci := 2) (v := .int (MS.lines st)) (C := RM) (T := TM) (N := 15) hx hb hts i_M hown hK hP 0 rfl rfl 1 (by decide) (hts _ m_377) (fun _ h9 => h9) rfl d_M_findCurves_9 ?_
    refine lv_icmp_ge (tgt := 160) hx hb d_M_findCurves_12 (by decide) (fun c2 => ?_) (fun c2 => ?_)
    · skip
      have hw := hw.1 c2
      exact W.vret hx hb hr (fun t ht hW => ⟨⟨st, rfl, hw, by rw [ht]; exact hP, hD⟩, hS.F ht⟩) hS.2.2 d_M_findCurves_160
    · skip
      have hw := hw.2 c2
      refine lv_aload_n hx hb d_M_findCurves_15 rfl (lv_at hl 0 rfl) ?_
      refine va_get (D := (dC, dI)) (ci := 2) (v := .ref (h 1)) (C := RM) (T := TM) (N := 15) hx hb hts i_M hown hK hP 0 rfl rfl 2 (by decide) (hts _ m_378) (fun _ h9 => h9) rfl d_M_findCurves_16 ?_
      refine lv_iconst (v := 3) hx hb d_M_findCurves_19 (by decide) ?_
      refine lv_iload_n hx hb d_M_findCurves_20 rfl (lv_at hl 1 rfl) ?_
      refine lv_imul hx hb d_M_findCurves_21 ?_
      refine lv_iconst (v := 1) hx hb d_M_findCurves_22 (by decide) ?_
      refine lv_iadd hx hb d_M_findCurves_23 ?_
      obtain ⟨h3, hw⟩ := hw
      refine va_iald hx hb hK hP 1 0 rfl rfl h3 d_M_findCurves_24 ?_
      refine lv_if_ne (tgt := 31) hx hb d_M_findCurves_25 (by decide) (fun c4 => ?_) (fun c4 => ?_)
      · skip
        have hw := hw.1 c4
        refine lv_aload_n hx hb d_M_findCurves_31 rfl (lv_at hl 0 rfl) ?_
        refine lv_iload_n hx hb d_M_findCurves_32 rfl (lv_at hl 1 rfl) ?_
        have hFc := va_freeA hD hS hA
        refine va_callv (va_runV (As := [.int v1]) (rest := []) ⟨hx, hb, hml, hown, hts⟩ (t_M_lineAt l dC dI h k _ st v1 hw) (cwV 1 hts (gV m_480 m_482 s_22 m_5 (cw_call m_483)) rfl rfl rfl (by decide +kernel) ⟨Nat.le_of_ble_eq_true rfl, Nat.le_of_ble_eq_true rfl⟩) ⟨pRw_bl, va_recv hK hP (ci := 2) (q0 := 0) rfl rfl, fun U hU hW => ⟨rfl, pRw_at hP hK hN hD hU hW⟩⟩ rfl rfl hl.1 rfl (lv_room (Nat.le_of_ble_eq_true rfl)) d_M_findCurves_33 ⟨Nat.le_of_ble_eq_true rfl, Nat.le_of_ble_eq_true rfl⟩) hS (fun q _ h => hFc q h) hFc (fun u5 t H1 locs ht hvm hw hB hz1 hk1 hS => ?_)
        obtain ⟨hP1, hD1⟩ := hB
        rw [ht] at hP1
        have hP := hP1
        have hD := hD1.weaken (fun _ q _ h => hFc q.1 h)
        generalize H1 = H at hP hS ⊢
        have hP : va_P (dC, dI) vwCl (WM h k u5) H := hP
        have hD : va_D A (WM h k u5) := hD
        refine lv_aload_n hx hb d_M_findCurves_36 rfl (lv_at hl 0 rfl) ?_
        refine vp_callSi (va_Run.run (va_runV (As := []) (rest := []) ⟨hx, hb, hml, hown, hts⟩ (t_M_below l dC dI h k u5  hw) (cwV 0 hts (gV m_484 m_486 s_23 m_5 (cw_call m_487)) rfl rfl rfl (by decide +kernel) ⟨Nat.le_of_ble_eq_true rfl, Nat.le_of_ble_eq_true rfl⟩) ⟨pRo_bl, va_recv hK hP (ci := 2) (q0 := 0) rfl rfl, fun U hU hW => ⟨rfl, pRo_at hP hK hN hU hW⟩⟩ rfl rfl hl.1 rfl (lv_room (Nat.le_of_ble_eq_true rfl)) d_M_findCurves_37 ⟨Nat.le_of_ble_eq_true rfl, Nat.le_of_ble_eq_true rfl⟩)) (fun r6 hw => ?_)
        refine lv_istore_n (lv' := [(2, .int r6), (0, .ref (h 0)), (1, .int v1)]) hx hb d_M_findCurves_40 rfl hl (by decide) rfl (fun ls hl => ?_)
        refine lv_iload_n hx hb d_M_findCurves_41 rfl (lv_at hl 0 rfl) ?_
        refine lv_aload_n hx hb d_M_findCurves_42 rfl (lv_at hl 1 rfl) ?_
        refine va_get (D := (dC, dI)) (ci := 2) (v := .int (MS.curves u5)) (C := RM) (T := TM) (N := 15) hx hb hts i_M hown hK hP 0 rfl rfl 6 (by decide) (hts _ m_382) (fun _ h9 => h9) rfl d_M_findCurves_43 ?_
        refine lv_icmp_ge (tgt := 80) hx hb d_M_findCurves_46 (by decide) (fun c7 => ?_) (fun c7 => ?_)
        · skip
          have hw := hw.1 c7
          refine lv_aload_n hx hb d_M_findCurves_80 rfl (lv_at hl 1 rfl) ?_
          refine va_get (D := (dC, dI)) (ci := 2) (v := .int (MS.curves u5)) (C := RM) (T := TM) (N := 15) hx hb hts i_M hown hK hP 0 rfl rfl 6 (by decide) (hts _ m_382) (fun _ h9 => h9) rfl d_M_findCurves_81 ?_
          refine lv_topi (fun y8 ey8 => ?_)
          have hw := hw y8 ey8
          refine lv_istore_n (lv' := [(3, .int y8), (2, .int r6), (0, .ref (h 0)), (1, .int v1)]) hx hb d_M_findCurves_84 rfl hl (by decide) rfl (fun ls hl => ?_)
          obtain ⟨n9, hw⟩ := hw
          exact k_M_findCurves_85 C0 hK hN hA ih n9 u5 v1 r6 y8 _ _ hP hD hS ls (lv_sub hl [2, 3, 1, 0] rfl) hw
        · skip
          have hw := hw.2 c7
          refine lv_aload_n hx hb d_M_findCurves_49 rfl (lv_at hl 1 rfl) ?_
          refine va_get (D := (dC, dI)) (ci := 2) (v := .ref (h 4)) (C := RM) (T := TM) (N := 15) hx hb hts i_M hown hK hP 0 rfl rfl 7 (by decide) (hts _ m_383) (fun _ h9 => h9) rfl d_M_findCurves_50 ?_
          refine lv_iload_n hx hb d_M_findCurves_53 rfl (lv_at hl 0 rfl) ?_
          obtain ⟨h10, hw⟩ := hw
          refine va_lald hx hb hK hP 4 3 rfl rfl h10 d_M_findCurves_54 ?_
          refine lv_aload_n hx hb d_M_findCurves_55 rfl (lv_at hl 1 rfl) ?_
          refine va_get (D := (dC, dI)) (ci := 2) (v := .long (MS.up u5)) (C := RM) (T := TM) (N := 15) hx hb hts i_M hown hK hP 0 rfl rfl 9 (by decide) (hts _ m_385) (fun _ h9 => h9) rfl d_M_findCurves_56 ?_
          refine W.lcmp hx hb d_M_findCurves_59 ?_
          refine lv_if_ne (tgt := 80) hx hb d_M_findCurves_60 (by decide) (fun c11 => ?_) (fun c11 => ?_)
          · have c11 : ¬ ((MS.yu u5) r6.toNatClampNeg) = (MS.up u5) := (fun q => c11 (lgc_eq.mpr q))
            have hw := hw.1 c11
            refine lv_aload_n hx hb d_M_findCurves_80 rfl (lv_at hl 1 rfl) ?_
            refine va_get (D := (dC, dI)) (ci := 2) (v := .int (MS.curves u5)) (C := RM) (T := TM) (N := 15) hx hb hts i_M hown hK hP 0 rfl rfl 6 (by decide) (hts _ m_382) (fun _ h9 => h9) rfl d_M_findCurves_81 ?_
            refine lv_topi (fun y12 ey12 => ?_)
            have hw := hw y12 ey12
            refine lv_istore_n (lv' := [(3, .int y12), (2, .int r6), (0, .ref (h 0)), (1, .int v1)]) hx hb d_M_findCurves_84 rfl hl (by decide) rfl (fun ls hl => ?_)
            obtain ⟨n13, hw⟩ := hw
            exact k_M_findCurves_85 C0 hK hN hA ih n13 u5 v1 r6 y12 _ _ hP hD hS ls (lv_sub hl [2, 3, 1, 0] rfl) hw
          · have c11 : ((MS.yu u5) r6.toNatClampNeg) = (MS.up u5) := (lgc_eq.mp c11)
            have hw := hw.2 c11
            refine lv_aload_n hx hb d_M_findCurves_63 rfl (lv_at hl 1 rfl) ?_
            refine va_get (D := (dC, dI)) (ci := 2) (v := .ref (h 5)) (C := RM) (T := TM) (N := 15) hx hb hts i_M hown hK hP 0 rfl rfl 8 (by decide) (hts _ m_384) (fun _ h9 => h9) rfl d_M_findCurves_64 ?_
            refine lv_iload_n hx hb d_M_findCurves_67 rfl (lv_at hl 0 rfl) ?_
            refine va_lald hx hb hK hP 5 4 rfl rfl h10 d_M_findCurves_68 ?_
            refine lv_aload_n hx hb d_M_findCurves_69 rfl (lv_at hl 1 rfl) ?_
            refine va_get (D := (dC, dI)) (ci := 2) (v := .long (MS.down u5)) (C := RM) (T := TM) (N := 15) hx hb hts i_M hown hK hP 0 rfl rfl 10 (by decide) (hts _ m_386) (fun _ h9 => h9) rfl d_M_findCurves_70 ?_
            refine W.lcmp hx hb d_M_findCurves_73 ?_
            refine lv_if_ne (tgt := 80) hx hb d_M_findCurves_74 (by decide) (fun c14 => ?_) (fun c14 => ?_)
            · have c14 : ¬ ((MS.yd u5) r6.toNatClampNeg) = (MS.down u5) := (fun q => c14 (lgc_eq.mpr q))
              have hw := hw.1 c14
              refine lv_aload_n hx hb d_M_findCurves_80 rfl (lv_at hl 1 rfl) ?_
              refine va_get (D := (dC, dI)) (ci := 2) (v := .int (MS.curves u5)) (C := RM) (T := TM) (N := 15) hx hb hts i_M hown hK hP 0 rfl rfl 6 (by decide) (hts _ m_382) (fun _ h9 => h9) rfl d_M_findCurves_81 ?_
              refine lv_topi (fun y15 ey15 => ?_)
              have hw := hw y15 ey15
              refine lv_istore_n (lv' := [(3, .int y15), (2, .int r6), (0, .ref (h 0)), (1, .int v1)]) hx hb d_M_findCurves_84 rfl hl (by decide) rfl (fun ls hl => ?_)
              obtain ⟨n16, hw⟩ := hw
              exact k_M_findCurves_85 C0 hK hN hA ih n16 u5 v1 r6 y15 _ _ hP hD hS ls (lv_sub hl [2, 3, 1, 0] rfl) hw
            · have c14 : ((MS.yd u5) r6.toNatClampNeg) = (MS.down u5) := (lgc_eq.mp c14)
              have hw := hw.2 c14
              refine lv_goto (tgt := 154) hx hb d_M_findCurves_77 (by decide) ?_
              refine lv_iinc (v := (v1 + 1)) (lv' := [(1, .int (v1 + 1)), (2, .int r6), (0, .ref (h 0))]) hx hb d_M_findCurves_154 hl (k := 2) rfl rfl (by decide) rfl (fun ls hl => ?_)
              refine lv_goto (tgt := 7) hx hb d_M_findCurves_157 (by decide) ?_
              exact ih u5 (v1 + 1) _ _ hP hD hS ls (lv_sub hl [2, 0] rfl) hw
      · skip
        have hw := hw.2 c4
        refine lv_goto (tgt := 154) hx hb d_M_findCurves_28 (by decide) ?_
        refine lv_iinc (v := (v1 + 1)) (lv' := [(1, .int (v1 + 1)), (0, .ref (h 0))]) hx hb d_M_findCurves_154 hl (k := 1) rfl rfl (by decide) rfl (fun ls hl => ?_)
        refine lv_goto (tgt := 7) hx hb d_M_findCurves_157 (by decide) ?_
        exact ih st (v1 + 1) _ _ hP hD hS ls (lv_sub hl [1, 0] rfl) hw
def w_M_findCurves (st : MS) (post : MS → Prop) : Prop := ∃ z, w_M_findCurves_7 post z ((MS.code st), (MS.lines st), (MS.num st), (MS.cuts st), (MS.cu st), (MS.cd st), 0, (MS.yu st), (MS.yd st), (MS.up st), (MS.down st), (MS.xu st), (MS.xd st), (MS.strip st), (MS.place st)) 0
set_option maxHeartbeats 4000000 in
set_option maxRecDepth 100000 in
theorem t_M_findCurves (l : Launch) (dC : Nat → ClassId) (dI : Nat → Nat → Nat) (h : Nat → Nat) (k : Nat → ClassId) (sz : Nat) (st : MS) {post : MS → Prop} (hw : w_M_findCurves st post) : Met l y_M_findCurves (Cond.code y_M_findCurves prog_4_method_16_code 4 none :: cw) ({ frames := 2, cells := 0, slots := 0, locals := 51 } : Room) (va_Pc [.ref (h 0)] (pRw (dC, dI) (WM h k st) (YM k) sz)) (va_Qv post (fun u t => va_P (dC, dI) vwCl (WM h k u) t.heap ∧ va_D (va_A (WM h k st) sz) (WM h k u)) (va_A (WM h k st) sz)) 0 0 (va_A (WM h k st) sz) := by
  refine Met.ofW (cc := prog_4_method_16_code) (maxL := 4) (ret := none) (by decide) rfl ?_
  intro p e s m args below meth c s₁ B hml hv
  obtain ⟨rfl, hsz, hP, hK, hN, hD0⟩ := hv
  have hx := B.exec
  have hb := B.bytes
  have hr := B.returns
  have hts : ∀ w ∈ cw, w.before _ s = true := fun w h => atoms_spec (ws := (Cond.code y_M_findCurves prog_4_method_16_code 4 none :: cw)) B.pre w (List.mem_cons_of_mem _ h)
  have hown : s.vm.findClass RM = some m.cls := findClass_of_methodNamed B.named
  have hlocks := B.notSynchronized
  have C0 : cxt p s m _ meth c prog_4_method_16_code 4 RM none := ⟨hx, hb, hr, hml, hown, hts, hlocks⟩
  subst hsz
  have hD := hD0.self (sz := s.heap.size)
  generalize hAe : va_A (WM h k st) s.heap.size = A at hD ⊢
  have hA : ∀ q : Nat, s.heap.size ≤ q → A q := fun q h => by rw [← hAe]; exact Or.inr h
  have hS : va_S A s.heap s.heap [] := va_S.rf
  have hl := lv_entry ([.ref (h 0)]) (n := 4) (Nat.le_of_ble_eq_true rfl)
  rw [lg_entry_eq]
  generalize (lg_sl ([.ref (h 0)]) ++ List.replicate (4 - (lg_sl ([.ref (h 0)])).length) Slot.unset).toArray = ls at hl ⊢
  have hl : lv_has ls 4 [(0, .ref (h 0))] := hl
  unfold w_M_findCurves at hw
  refine lv_aload_n hx hb d_M_findCurves_0 rfl (lv_at hl 0 rfl) ?_
  refine lv_iconst (v := 0) hx hb d_M_findCurves_1 (by decide) ?_
  refine va_put (D := (dC, dI)) (ci := 2) (v := .int 0) (ty := .int) (C := RM) (T := TM) (N := 15) hx hb hts i_M tyM tyM_ok nmM hown hK hP hD hS 0 rfl rfl 6 (by decide) (hts _ m_382) (fun _ h9 => h9) rfl (by decide +kernel) rfl rfl (Nat.le_of_ble_eq_true rfl) d_M_findCurves_2 (fun H locs hP hD hS => ?_)
  have hP : va_P (dC, dI) vwCl [(h 0, .inr (2, [.int (MS.code st), .int (MS.lines st), .ref (h 1), .int (MS.cuts st), .ref (h 2), .ref (h 3), .int 0, .ref (h 4), .ref (h 5), .long (MS.up st), .long (MS.down st), .long (MS.xu st), .long (MS.xd st), .int (MS.strip st), .int (MS.place st)])), (h 1, .inl (k 1, 18, .inl (MS.num st))), (h 2, .inl (k 2, 24, .inr (.inl (MS.cu st)))), (h 3, .inl (k 3, 24, .inr (.inl (MS.cd st)))), (h 4, .inl (k 4, 6, .inr (.inl (MS.yu st)))), (h 5, .inl (k 5, 6, .inr (.inl (MS.yd st))))] H := hP
  have hD : va_D A [(h 0, .inr (2, [.int (MS.code st), .int (MS.lines st), .ref (h 1), .int (MS.cuts st), .ref (h 2), .ref (h 3), .int 0, .ref (h 4), .ref (h 5), .long (MS.up st), .long (MS.down st), .long (MS.xu st), .long (MS.xd st), .int (MS.strip st), .int (MS.place st)])), (h 1, .inl (k 1, 18, .inl (MS.num st))), (h 2, .inl (k 2, 24, .inr (.inl (MS.cu st)))), (h 3, .inl (k 3, 24, .inr (.inl (MS.cd st)))), (h 4, .inl (k 4, 6, .inr (.inl (MS.yu st)))), (h 5, .inl (k 5, 6, .inr (.inl (MS.yd st))))] := hD
  refine lv_iconst (v := 0) hx hb d_M_findCurves_5 (by decide) ?_
  refine lv_istore_n (lv' := [(1, .int 0), (0, .ref (h 0))]) hx hb d_M_findCurves_6 rfl hl (by decide) rfl (fun ls hl => ?_)
  have hP : va_P (dC, dI) vwCl (WM h k ((MS.code st), (MS.lines st), (MS.num st), (MS.cuts st), (MS.cu st), (MS.cd st), 0, (MS.yu st), (MS.yd st), (MS.up st), (MS.down st), (MS.xu st), (MS.xd st), (MS.strip st), (MS.place st))) _ := hP
  have hD : va_D A (WM h k ((MS.code st), (MS.lines st), (MS.num st), (MS.cuts st), (MS.cu st), (MS.cd st), 0, (MS.yu st), (MS.yd st), (MS.up st), (MS.down st), (MS.xu st), (MS.xd st), (MS.strip st), (MS.place st))) := hD
  obtain ⟨n1, hw⟩ := hw
  exact k_M_findCurves_7 C0 hK hN hA n1 ((MS.code st), (MS.lines st), (MS.num st), (MS.cuts st), (MS.cu st), (MS.cd st), 0, (MS.yu st), (MS.yd st), (MS.up st), (MS.down st), (MS.xu st), (MS.xd st), (MS.strip st), (MS.place st)) 0 _ _ hP hD hS ls (lv_sub hl [1, 0] rfl) hw
def w_M_curvesOf (st : MS) (post : MS → Prop) (p0 : Int32) : Prop := w_M_sampleX st (fun u1 => (w_M_findCurves u1 (fun u2 => (post u2)) )) p0
set_option maxHeartbeats 4000000 in
set_option maxRecDepth 100000 in
theorem t_M_curvesOf (l : Launch) (dC : Nat → ClassId) (dI : Nat → Nat → Nat) (h : Nat → Nat) (k : Nat → ClassId) (sz : Nat) (st : MS) (p0 : Int32) {post : MS → Prop} (hw : w_M_curvesOf st post p0) : Met l y_M_curvesOf (Cond.code y_M_curvesOf prog_4_method_18_code 2 none :: cw) ({ frames := 3, cells := 0, slots := 0, locals := 74 } : Room) (va_Pc [.ref (h 0), .int p0] (pRw (dC, dI) (WM h k st) (YM k) sz)) (va_Qv post (fun u t => va_P (dC, dI) vwCl (WM h k u) t.heap ∧ va_D (va_A (WM h k st) sz) (WM h k u)) (va_A (WM h k st) sz)) 0 0 (va_A (WM h k st) sz) := by
  refine Met.ofW (cc := prog_4_method_18_code) (maxL := 2) (ret := none) (by decide) rfl ?_
  intro p e s m args below meth c s₁ B hml hv
  obtain ⟨rfl, hsz, hP, hK, hN, hD0⟩ := hv
  have hx := B.exec
  have hb := B.bytes
  have hr := B.returns
  have hts : ∀ w ∈ cw, w.before _ s = true := fun w h => atoms_spec (ws := (Cond.code y_M_curvesOf prog_4_method_18_code 2 none :: cw)) B.pre w (List.mem_cons_of_mem _ h)
  have hown : s.vm.findClass RM = some m.cls := findClass_of_methodNamed B.named
  have hlocks := B.notSynchronized
  have C0 : cxt p s m _ meth c prog_4_method_18_code 2 RM none := ⟨hx, hb, hr, hml, hown, hts, hlocks⟩
  subst hsz
  have hD := hD0.self (sz := s.heap.size)
  generalize hAe : va_A (WM h k st) s.heap.size = A at hD ⊢
  have hA : ∀ q : Nat, s.heap.size ≤ q → A q := fun q h => by rw [← hAe]; exact Or.inr h
  have hS : va_S A s.heap s.heap [] := va_S.rf
  have hl := lv_entry ([.ref (h 0), .int p0]) (n := 2) (Nat.le_of_ble_eq_true rfl)
  rw [lg_entry_eq]
  generalize (lg_sl ([.ref (h 0), .int p0]) ++ List.replicate (2 - (lg_sl ([.ref (h 0), .int p0])).length) Slot.unset).toArray = ls at hl ⊢
  have hl : lv_has ls 2 [(0, .ref (h 0)), (1, .int p0)] := hl
  unfold w_M_curvesOf at hw
  refine lv_aload_n hx hb d_M_curvesOf_0 rfl (lv_at hl 0 rfl) ?_
  refine lv_iload_n hx hb d_M_curvesOf_1 rfl (lv_at hl 1 rfl) ?_
  have hFc := va_freeA hD hS hA
  refine va_callv (va_runV (As := [.int p0]) (rest := []) ⟨hx, hb, hml, hown, hts⟩ (t_M_sampleX l dC dI h k _ st p0 hw) (cwV 1 hts (gV m_471 m_473 s_20 m_5 (cw_call m_474)) rfl rfl rfl (by decide +kernel) ⟨Nat.le_of_ble_eq_true rfl, Nat.le_of_ble_eq_true rfl⟩) ⟨pRw_bl, va_recv hK hP (ci := 2) (q0 := 0) rfl rfl, fun U hU hW => ⟨rfl, pRw_at hP hK hN hD hU hW⟩⟩ rfl rfl hl.1 rfl (lv_room (Nat.le_of_ble_eq_true rfl)) d_M_curvesOf_2 ⟨Nat.le_of_ble_eq_true rfl, Nat.le_of_ble_eq_true rfl⟩) hS (fun q _ h => hFc q h) hFc (fun u1 t H1 locs ht hvm hw hB hz1 hk1 hS => ?_)
  obtain ⟨hP1, hD1⟩ := hB
  rw [ht] at hP1
  have hP := hP1
  have hD := hD1.weaken (fun _ q _ h => hFc q.1 h)
  generalize H1 = H at hP hS ⊢
  have hP : va_P (dC, dI) vwCl (WM h k u1) H := hP
  have hD : va_D A (WM h k u1) := hD
  refine lv_aload_n hx hb d_M_curvesOf_5 rfl (lv_at hl 0 rfl) ?_
  have hFc := va_freeA hD hS hA
  refine va_callv (va_runV (As := []) (rest := []) ⟨hx, hb, hml, hown, hts⟩ (t_M_findCurves l dC dI h k _ u1  hw) (cwV 0 hts (gV m_476 m_478 s_21 m_5 (cw_call m_479)) rfl rfl rfl (by decide +kernel) ⟨Nat.le_of_ble_eq_true rfl, Nat.le_of_ble_eq_true rfl⟩) ⟨pRw_bl, va_recv hK hP (ci := 2) (q0 := 0) rfl rfl, fun U hU hW => ⟨rfl, pRw_at hP hK hN hD hU hW⟩⟩ rfl rfl hl.1 rfl (lv_room (Nat.le_of_ble_eq_true rfl)) d_M_curvesOf_6 ⟨Nat.le_of_ble_eq_true rfl, Nat.le_of_ble_eq_true rfl⟩) hS (fun q _ h => hFc q h) hFc (fun u2 t H1 locs ht hvm hw hB hz1 hk1 hS => ?_)
  obtain ⟨hP1, hD1⟩ := hB
  rw [ht] at hP1
  have hP := hP1
  have hD := hD1.weaken (fun _ q _ h => hFc q.1 h)
  generalize H1 = H at hP hS ⊢
  have hP : va_P (dC, dI) vwCl (WM h k u2) H := hP
  have hD : va_D A (WM h k u2) := hD
  exact W.vret hx hb hr (fun t ht hW => ⟨⟨u2, rfl, hw, by rw [ht]; exact hP, hD⟩, hS.F ht⟩) hS.2.2 d_M_curvesOf_9
def w_M_isCell_4 (post : Int32 → MS → Prop) : Nat → MS → Int32 → Int32 → Int32 → Prop
  | 0, _, _, _, _ => False
  | n + 1, st, v1, v2, v3 => ((2 * (MS.cuts st)) < v3 → (post 0 st)) ∧ (¬ (2 * (MS.cuts st)) < v3 → ((v1 < 0 → (post 0 st)) ∧ (¬ v1 < 0 → (w_M_curvesOf st (fun u4 => (((2 * (MS.curves u4)) < v2 → (∀ y6 : Int32, y6 = (v2 - ((2 * (MS.curves u4)) + 1)) → (w_M_isCell_4 post n u4 v1 y6 (v3 + 1)))) ∧ (¬ (2 * (MS.curves u4)) < v2 → (post 1 ((MS.code u4), (MS.lines u4), (MS.num u4), (MS.cuts u4), (MS.cu u4), (MS.cd u4), (MS.curves u4), (MS.yu u4), (MS.yd u4), (MS.up u4), (MS.down u4), (MS.xu u4), (MS.xd u4), v3, v2))))) v3))))
set_option maxHeartbeats 4000000 in
set_option maxRecDepth 100000 in
theorem k_M_isCell_4 {p : Program} {l : Launch} {e : Env} {s : State} {m : MethodId} {args : Array Value} {below : List Frame} {meth : Method} {c : Code} {dC : Nat → ClassId} {dI : Nat → Nat → Nat} {h : Nat → Nat} {k : Nat → ClassId} {A : Nat → Prop} {post : Int32 → MS → Prop} (C0 : cxt p s m args meth c prog_4_method_21_code 4 RM (some .boolean)) (hK : va_K (dC, dI) vwCl (YM k) s) (hN : va_Nw nestW s) (hA : ∀ q, s.heap.size ≤ q → A q) : ∀ (n : Nat), ∀ (st : MS) (v1 : Int32) (v2 : Int32) (v3 : Int32) (H : Heap) (locs : List Loc), va_P (dC, dI) vwCl (WM h k st) H → va_D A (WM h k st) → va_S A s.heap H locs → ∀ ls, lv_has ls 4 [(0, .ref (h 0)), (1, .int v1), (2, .int v2), (3, .int v3)] → w_M_isCell_4 post n st v1 v2 v3 → W p l e ({ frames := 4, cells := 0, slots := 0, locals := 95 } : Room) s m args below meth c H locs 0 0 (MQ below (va_Qi post (fun u t => va_P (dC, dI) vwCl (WM h k u) t.heap ∧ va_D A (WM h k u)) A) args s 0 0 A) (F0 m 4 ls []) := by
  obtain ⟨hx, hb, hr, hml, hown, hts, hlocks⟩ := id C0
  intro n
  induction n with
  | zero =>
    intro st v1 v2 v3 H locs hP hD hS ls hl hw
    exact False.elim hw
  | succ n ih =>
    intro st v1 v2 v3 H locs hP hD hS ls hl hw
    rw [w_M_isCell_4] at hw
    refine lv_iload_n hx hb d_M_isCell_4 rfl (lv_at hl 3 rfl) ?_
    refine lv_iconst (v := 2) hx hb d_M_isCell_5 (by decide) ?_
    refine lv_aload_n hx hb d_M_isCell_6 rfl (lv_at hl 0 rfl) ?_
    refine va_get (D := (dC, dI)) (ci := 2) (v := .int (MS.cuts st)) (C := RM) (T := TM) (N := 15) hx hb hts i_M hown hK hP 0 rfl rfl 3 (by decide) (hts _ m_379) (fun _ h9 => h9) rfl d_M_isCell_7 ?_
    refine lv_imul hx hb d_M_isCell_10 ?_
    refine lv_icmp_gt (tgt := 62) hx hb d_M_isCell_11 (by decide) (fun c2 => ?_) (fun c2 => ?_)
    · skip
      have hw := hw.1 c2
      refine lv_iconst (v := 0) hx hb d_M_isCell_62 (by decide) ?_
      exact W.zret (v := 0) hx hb hr rfl (fun t ht hW => ⟨⟨0, st, rfl, hw, by rw [ht]; exact hP, hD⟩, hS.F ht⟩) hS.2.2 d_M_isCell_63
    · skip
      have hw := hw.2 c2
      refine lv_iload_n hx hb d_M_isCell_14 rfl (lv_at hl 1 rfl) ?_
      refine lv_if_lt (tgt := 62) hx hb d_M_isCell_15 (by decide) (fun c3 => ?_) (fun c3 => ?_)
      · skip
        have hw := hw.1 c3
        refine lv_iconst (v := 0) hx hb d_M_isCell_62 (by decide) ?_
        exact W.zret (v := 0) hx hb hr rfl (fun t ht hW => ⟨⟨0, st, rfl, hw, by rw [ht]; exact hP, hD⟩, hS.F ht⟩) hS.2.2 d_M_isCell_63
      · skip
        have hw := hw.2 c3
        refine lv_aload_n hx hb d_M_isCell_18 rfl (lv_at hl 0 rfl) ?_
        refine lv_iload_n hx hb d_M_isCell_19 rfl (lv_at hl 3 rfl) ?_
        have hFc := va_freeA hD hS hA
        refine va_callv (va_runV (As := [.int v3]) (rest := []) ⟨hx, hb, hml, hown, hts⟩ (t_M_curvesOf l dC dI h k _ st v3 hw) (cwV 1 hts (gV m_467 m_469 s_19 m_5 (cw_call m_470)) rfl rfl rfl (by decide +kernel) ⟨Nat.le_of_ble_eq_true rfl, Nat.le_of_ble_eq_true rfl⟩) ⟨pRw_bl, va_recv hK hP (ci := 2) (q0 := 0) rfl rfl, fun U hU hW => ⟨rfl, pRw_at hP hK hN hD hU hW⟩⟩ rfl rfl hl.1 rfl (lv_room (Nat.le_of_ble_eq_true rfl)) d_M_isCell_20 ⟨Nat.le_of_ble_eq_true rfl, Nat.le_of_ble_eq_true rfl⟩) hS (fun q _ h => hFc q h) hFc (fun u4 t H1 locs ht hvm hw hB hz1 hk1 hS => ?_)
        obtain ⟨hP1, hD1⟩ := hB
        rw [ht] at hP1
        have hP := hP1
        have hD := hD1.weaken (fun _ q _ h => hFc q.1 h)
        generalize H1 = H at hP hS ⊢
        have hP : va_P (dC, dI) vwCl (WM h k u4) H := hP
        have hD : va_D A (WM h k u4) := hD
        refine lv_iload_n hx hb d_M_isCell_23 rfl (lv_at hl 2 rfl) ?_
        refine lv_iconst (v := 2) hx hb d_M_isCell_24 (by decide) ?_
        refine lv_aload_n hx hb d_M_isCell_25 rfl (lv_at hl 0 rfl) ?_
        refine va_get (D := (dC, dI)) (ci := 2) (v := .int (MS.curves u4)) (C := RM) (T := TM) (N := 15) hx hb hts i_M hown hK hP 0 rfl rfl 6 (by decide) (hts _ m_382) (fun _ h9 => h9) rfl d_M_isCell_26 ?_
        refine lv_imul hx hb d_M_isCell_29 ?_
        refine lv_icmp_gt (tgt := 45) hx hb d_M_isCell_30 (by decide) (fun c5 => ?_) (fun c5 => ?_)
        · skip
          have hw := hw.1 c5
          refine lv_iload_n hx hb d_M_isCell_45 rfl (lv_at hl 2 rfl) ?_
          refine lv_iconst (v := 2) hx hb d_M_isCell_46 (by decide) ?_
          refine lv_aload_n hx hb d_M_isCell_47 rfl (lv_at hl 0 rfl) ?_
          refine va_get (D := (dC, dI)) (ci := 2) (v := .int (MS.curves u4)) (C := RM) (T := TM) (N := 15) hx hb hts i_M hown hK hP 0 rfl rfl 6 (by decide) (hts _ m_382) (fun _ h9 => h9) rfl d_M_isCell_48 ?_
          refine lv_imul hx hb d_M_isCell_51 ?_
          refine lv_iconst (v := 1) hx hb d_M_isCell_52 (by decide) ?_
          refine lv_iadd hx hb d_M_isCell_53 ?_
          refine lv_isub hx hb d_M_isCell_54 ?_
          refine lv_topi (fun y6 ey6 => ?_)
          have hw := hw y6 ey6
          refine lv_istore_n (lv' := [(2, .int y6), (0, .ref (h 0)), (1, .int v1), (3, .int v3)]) hx hb d_M_isCell_55 rfl hl (by decide) rfl (fun ls hl => ?_)
          refine lv_iinc (v := (v3 + 1)) (lv' := [(3, .int (v3 + 1)), (2, .int y6), (0, .ref (h 0)), (1, .int v1)]) hx hb d_M_isCell_56 hl (k := 3) rfl rfl (by decide) rfl (fun ls hl => ?_)
          refine lv_goto (tgt := 4) hx hb d_M_isCell_59 (by decide) ?_
          exact ih u4 v1 y6 (v3 + 1) _ _ hP hD hS ls (lv_sub hl [2, 3, 1, 0] rfl) hw
        · skip
          have hw := hw.2 c5
          refine lv_aload_n hx hb d_M_isCell_33 rfl (lv_at hl 0 rfl) ?_
          refine lv_iload_n hx hb d_M_isCell_34 rfl (lv_at hl 3 rfl) ?_
          refine va_put (D := (dC, dI)) (ci := 2) (v := .int v3) (ty := .int) (C := RM) (T := TM) (N := 15) hx hb hts i_M tyM tyM_ok nmM hown hK hP hD hS 0 rfl rfl 13 (by decide) (hts _ m_389) (fun _ h9 => h9) rfl (by decide +kernel) rfl rfl (Nat.le_of_ble_eq_true rfl) d_M_isCell_35 (fun H locs hP hD hS => ?_)
          have hP : va_P (dC, dI) vwCl [(h 0, .inr (2, [.int (MS.code u4), .int (MS.lines u4), .ref (h 1), .int (MS.cuts u4), .ref (h 2), .ref (h 3), .int (MS.curves u4), .ref (h 4), .ref (h 5), .long (MS.up u4), .long (MS.down u4), .long (MS.xu u4), .long (MS.xd u4), .int v3, .int (MS.place u4)])), (h 1, .inl (k 1, 18, .inl (MS.num u4))), (h 2, .inl (k 2, 24, .inr (.inl (MS.cu u4)))), (h 3, .inl (k 3, 24, .inr (.inl (MS.cd u4)))), (h 4, .inl (k 4, 6, .inr (.inl (MS.yu u4)))), (h 5, .inl (k 5, 6, .inr (.inl (MS.yd u4))))] H := hP
          have hD : va_D A [(h 0, .inr (2, [.int (MS.code u4), .int (MS.lines u4), .ref (h 1), .int (MS.cuts u4), .ref (h 2), .ref (h 3), .int (MS.curves u4), .ref (h 4), .ref (h 5), .long (MS.up u4), .long (MS.down u4), .long (MS.xu u4), .long (MS.xd u4), .int v3, .int (MS.place u4)])), (h 1, .inl (k 1, 18, .inl (MS.num u4))), (h 2, .inl (k 2, 24, .inr (.inl (MS.cu u4)))), (h 3, .inl (k 3, 24, .inr (.inl (MS.cd u4)))), (h 4, .inl (k 4, 6, .inr (.inl (MS.yu u4)))), (h 5, .inl (k 5, 6, .inr (.inl (MS.yd u4))))] := hD
          refine lv_aload_n hx hb d_M_isCell_38 rfl (lv_at hl 0 rfl) ?_
          refine lv_iload_n hx hb d_M_isCell_39 rfl (lv_at hl 2 rfl) ?_
          refine va_put (D := (dC, dI)) (ci := 2) (v := .int v2) (ty := .int) (C := RM) (T := TM) (N := 15) hx hb hts i_M tyM tyM_ok nmM hown hK hP hD hS 0 rfl rfl 14 (by decide) (hts _ m_390) (fun _ h9 => h9) rfl (by decide +kernel) rfl rfl (Nat.le_of_ble_eq_true rfl) d_M_isCell_40 (fun H locs hP hD hS => ?_)
          have hP : va_P (dC, dI) vwCl [(h 0, .inr (2, [.int (MS.code u4), .int (MS.lines u4), .ref (h 1), .int (MS.cuts u4), .ref (h 2), .ref (h 3), .int (MS.curves u4), .ref (h 4), .ref (h 5), .long (MS.up u4), .long (MS.down u4), .long (MS.xu u4), .long (MS.xd u4), .int v3, .int v2])), (h 1, .inl (k 1, 18, .inl (MS.num u4))), (h 2, .inl (k 2, 24, .inr (.inl (MS.cu u4)))), (h 3, .inl (k 3, 24, .inr (.inl (MS.cd u4)))), (h 4, .inl (k 4, 6, .inr (.inl (MS.yu u4)))), (h 5, .inl (k 5, 6, .inr (.inl (MS.yd u4))))] H := hP
          have hD : va_D A [(h 0, .inr (2, [.int (MS.code u4), .int (MS.lines u4), .ref (h 1), .int (MS.cuts u4), .ref (h 2), .ref (h 3), .int (MS.curves u4), .ref (h 4), .ref (h 5), .long (MS.up u4), .long (MS.down u4), .long (MS.xu u4), .long (MS.xd u4), .int v3, .int v2])), (h 1, .inl (k 1, 18, .inl (MS.num u4))), (h 2, .inl (k 2, 24, .inr (.inl (MS.cu u4)))), (h 3, .inl (k 3, 24, .inr (.inl (MS.cd u4)))), (h 4, .inl (k 4, 6, .inr (.inl (MS.yu u4)))), (h 5, .inl (k 5, 6, .inr (.inl (MS.yd u4))))] := hD
          refine lv_iconst (v := 1) hx hb d_M_isCell_43 (by decide) ?_
          have hP : va_P (dC, dI) vwCl (WM h k ((MS.code u4), (MS.lines u4), (MS.num u4), (MS.cuts u4), (MS.cu u4), (MS.cd u4), (MS.curves u4), (MS.yu u4), (MS.yd u4), (MS.up u4), (MS.down u4), (MS.xu u4), (MS.xd u4), v3, v2)) _ := hP
          have hD : va_D A (WM h k ((MS.code u4), (MS.lines u4), (MS.num u4), (MS.cuts u4), (MS.cu u4), (MS.cd u4), (MS.curves u4), (MS.yu u4), (MS.yd u4), (MS.up u4), (MS.down u4), (MS.xu u4), (MS.xd u4), v3, v2)) := hD
          exact W.zret (v := 1) hx hb hr rfl (fun t ht hW => ⟨⟨1, ((MS.code u4), (MS.lines u4), (MS.num u4), (MS.cuts u4), (MS.cu u4), (MS.cd u4), (MS.curves u4), (MS.yu u4), (MS.yd u4), (MS.up u4), (MS.down u4), (MS.xu u4), (MS.xd u4), v3, v2), rfl, hw, by rw [ht]; exact hP, hD⟩, hS.F ht⟩) hS.2.2 d_M_isCell_44
def w_M_isCell (st : MS) (post : Int32 → MS → Prop) (p0 : Int32) : Prop := ∃ z, w_M_isCell_4 post z st p0 p0 0
set_option maxHeartbeats 4000000 in
set_option maxRecDepth 100000 in
theorem t_M_isCell (l : Launch) (dC : Nat → ClassId) (dI : Nat → Nat → Nat) (h : Nat → Nat) (k : Nat → ClassId) (sz : Nat) (st : MS) (p0 : Int32) {post : Int32 → MS → Prop} (hw : w_M_isCell st post p0) : Met l y_M_isCell (Cond.code y_M_isCell prog_4_method_21_code 4 (some .boolean) :: cw) ({ frames := 4, cells := 0, slots := 0, locals := 95 } : Room) (va_Pc [.ref (h 0), .int p0] (pRw (dC, dI) (WM h k st) (YM k) sz)) (va_Qi post (fun u t => va_P (dC, dI) vwCl (WM h k u) t.heap ∧ va_D (va_A (WM h k st) sz) (WM h k u)) (va_A (WM h k st) sz)) 0 0 (va_A (WM h k st) sz) := by
  refine Met.ofW (cc := prog_4_method_21_code) (maxL := 4) (ret := (some .boolean)) (by decide) rfl ?_
  intro p e s m args below meth c s₁ B hml hv
  obtain ⟨rfl, hsz, hP, hK, hN, hD0⟩ := hv
  have hx := B.exec
  have hb := B.bytes
  have hr := B.returns
  have hts : ∀ w ∈ cw, w.before _ s = true := fun w h => atoms_spec (ws := (Cond.code y_M_isCell prog_4_method_21_code 4 (some .boolean) :: cw)) B.pre w (List.mem_cons_of_mem _ h)
  have hown : s.vm.findClass RM = some m.cls := findClass_of_methodNamed B.named
  have hlocks := B.notSynchronized
  have C0 : cxt p s m _ meth c prog_4_method_21_code 4 RM (some .boolean) := ⟨hx, hb, hr, hml, hown, hts, hlocks⟩
  subst hsz
  have hD := hD0.self (sz := s.heap.size)
  generalize hAe : va_A (WM h k st) s.heap.size = A at hD ⊢
  have hA : ∀ q : Nat, s.heap.size ≤ q → A q := fun q h => by rw [← hAe]; exact Or.inr h
  have hS : va_S A s.heap s.heap [] := va_S.rf
  have hl := lv_entry ([.ref (h 0), .int p0]) (n := 4) (Nat.le_of_ble_eq_true rfl)
  rw [lg_entry_eq]
  generalize (lg_sl ([.ref (h 0), .int p0]) ++ List.replicate (4 - (lg_sl ([.ref (h 0), .int p0])).length) Slot.unset).toArray = ls at hl ⊢
  have hl : lv_has ls 4 [(0, .ref (h 0)), (1, .int p0)] := hl
  unfold w_M_isCell at hw
  refine lv_iload_n hx hb d_M_isCell_0 rfl (lv_at hl 1 rfl) ?_
  refine lv_istore_n (lv' := [(2, .int p0), (0, .ref (h 0)), (1, .int p0)]) hx hb d_M_isCell_1 rfl hl (by decide) rfl (fun ls hl => ?_)
  refine lv_iconst (v := 0) hx hb d_M_isCell_2 (by decide) ?_
  refine lv_istore_n (lv' := [(3, .int 0), (2, .int p0), (0, .ref (h 0)), (1, .int p0)]) hx hb d_M_isCell_3 rfl hl (by decide) rfl (fun ls hl => ?_)
  obtain ⟨n1, hw⟩ := hw
  exact k_M_isCell_4 C0 hK hN hA n1 st p0 p0 0 _ _ hP hD hS ls (lv_sub hl [2, 3, 1, 0] rfl) hw
def w_M_sampleY (st : MS) (post : MS → Prop) : Prop := ∀ y1 : Int32, y1 = ((MS.place st) / 2) → ((¬ (MS.curves st) = 0 → ((¬ ((MS.place st) - (MS.place st) / 2 * 2) = 1 → ((¬ (MS.place st) = 0 → ((¬ y1 = (MS.curves st) → (vp_in (y1 - 1) 6 ∧ (vp_in y1 6 ∧ (w_M_lowest st (fun u8 => (post u8)) ((((MS.yu st) (y1 - 1).toNatClampNeg) * ((MS.yd st) y1.toNatClampNeg)) + (((MS.yu st) y1.toNatClampNeg) * ((MS.yd st) (y1 - 1).toNatClampNeg))) ((2 * ((MS.yd st) (y1 - 1).toNatClampNeg)) * ((MS.yd st) y1.toNatClampNeg)))))) ∧ (y1 = (MS.curves st) → (vp_in (y1 - 1) 6 ∧ (w_M_lowest st (fun u10 => (post u10)) (((MS.yu st) (y1 - 1).toNatClampNeg) + ((MS.yd st) (y1 - 1).toNatClampNeg)) ((MS.yd st) (y1 - 1).toNatClampNeg)))))) ∧ ((MS.place st) = 0 → (w_M_lowest st (fun u11 => (post u11)) (((MS.yu st) (0 : Int32).toNatClampNeg) - ((MS.yd st) (0 : Int32).toNatClampNeg)) ((MS.yd st) (0 : Int32).toNatClampNeg))))) ∧ (((MS.place st) - (MS.place st) / 2 * 2) = 1 → (vp_in y1 6 ∧ (w_M_lowest st (fun u13 => (post u13)) ((MS.yu st) y1.toNatClampNeg) ((MS.yd st) y1.toNatClampNeg)))))) ∧ ((MS.curves st) = 0 → (w_M_lowest st (fun u14 => (post u14)) (0 : Int64) (1 : Int64))))
set_option maxHeartbeats 4000000 in
set_option maxRecDepth 100000 in
theorem t_M_sampleY (l : Launch) (dC : Nat → ClassId) (dI : Nat → Nat → Nat) (h : Nat → Nat) (k : Nat → ClassId) (sz : Nat) (st : MS) {post : MS → Prop} (hw : w_M_sampleY st post) : Met l y_M_sampleY (Cond.code y_M_sampleY prog_4_method_23_code 2 none :: cw) ({ frames := 1, cells := 0, slots := 0, locals := 30 } : Room) (va_Pc [.ref (h 0)] (pRw (dC, dI) (WM h k st) (YM k) sz)) (va_Qv post (fun u t => va_P (dC, dI) vwCl (WM h k u) t.heap ∧ va_D (va_A (WM h k st) sz) (WM h k u)) (va_A (WM h k st) sz)) 0 0 (va_A (WM h k st) sz) := by
  refine Met.ofW (cc := prog_4_method_23_code) (maxL := 2) (ret := none) (by decide) rfl ?_
  intro p e s m args below meth c s₁ B hml hv
  obtain ⟨rfl, hsz, hP, hK, hN, hD0⟩ := hv
  have hx := B.exec
  have hb := B.bytes
  have hr := B.returns
  have hts : ∀ w ∈ cw, w.before _ s = true := fun w h => atoms_spec (ws := (Cond.code y_M_sampleY prog_4_method_23_code 2 none :: cw)) B.pre w (List.mem_cons_of_mem _ h)
  have hown : s.vm.findClass RM = some m.cls := findClass_of_methodNamed B.named
  have hlocks := B.notSynchronized
  have C0 : cxt p s m _ meth c prog_4_method_23_code 2 RM none := ⟨hx, hb, hr, hml, hown, hts, hlocks⟩
  subst hsz
  have hD := hD0.self (sz := s.heap.size)
  generalize hAe : va_A (WM h k st) s.heap.size = A at hD ⊢
  have hA : ∀ q : Nat, s.heap.size ≤ q → A q := fun q h => by rw [← hAe]; exact Or.inr h
  have hS : va_S A s.heap s.heap [] := va_S.rf
  have hl := lv_entry ([.ref (h 0)]) (n := 2) (Nat.le_of_ble_eq_true rfl)
  rw [lg_entry_eq]
  generalize (lg_sl ([.ref (h 0)]) ++ List.replicate (2 - (lg_sl ([.ref (h 0)])).length) Slot.unset).toArray = ls at hl ⊢
  have hl : lv_has ls 2 [(0, .ref (h 0))] := hl
  unfold w_M_sampleY at hw
  refine lv_aload_n hx hb d_M_sampleY_0 rfl (lv_at hl 0 rfl) ?_
  refine va_get (D := (dC, dI)) (ci := 2) (v := .int (MS.place st)) (C := RM) (T := TM) (N := 15) hx hb hts i_M hown hK hP 0 rfl rfl 14 (by decide) (hts _ m_390) (fun _ h9 => h9) rfl d_M_sampleY_1 ?_
  refine lv_iconst (v := 2) hx hb d_M_sampleY_4 (by decide) ?_
  refine lv_idiv hx hb d_M_sampleY_5 (by decide) ?_
  refine lv_topi (fun y1 ey1 => ?_)
  have hw := hw y1 ey1
  refine lv_istore_n (lv' := [(1, .int y1), (0, .ref (h 0))]) hx hb d_M_sampleY_6 rfl hl (by decide) rfl (fun ls hl => ?_)
  refine lv_aload_n hx hb d_M_sampleY_7 rfl (lv_at hl 1 rfl) ?_
  refine va_get (D := (dC, dI)) (ci := 2) (v := .int (MS.curves st)) (C := RM) (T := TM) (N := 15) hx hb hts i_M hown hK hP 0 rfl rfl 6 (by decide) (hts _ m_382) (fun _ h9 => h9) rfl d_M_sampleY_8 ?_
  refine lv_if_ne (tgt := 23) hx hb d_M_sampleY_11 (by decide) (fun c2 => ?_) (fun c2 => ?_)
  · skip
    have hw := hw.1 c2
    refine lv_aload_n hx hb d_M_sampleY_23 rfl (lv_at hl 1 rfl) ?_
    refine va_get (D := (dC, dI)) (ci := 2) (v := .int (MS.place st)) (C := RM) (T := TM) (N := 15) hx hb hts i_M hown hK hP 0 rfl rfl 14 (by decide) (hts _ m_390) (fun _ h9 => h9) rfl d_M_sampleY_24 ?_
    refine lv_iconst (v := 2) hx hb d_M_sampleY_27 (by decide) ?_
    refine lv_irem hx hb d_M_sampleY_28 (by decide) ?_
    refine lv_iconst (v := 1) hx hb d_M_sampleY_29 (by decide) ?_
    refine lv_icmp_ne (tgt := 52) hx hb d_M_sampleY_30 (by decide) (fun c3 => ?_) (fun c3 => ?_)
    · skip
      have hw := hw.1 c3
      refine lv_aload_n hx hb d_M_sampleY_52 rfl (lv_at hl 1 rfl) ?_
      refine va_get (D := (dC, dI)) (ci := 2) (v := .int (MS.place st)) (C := RM) (T := TM) (N := 15) hx hb hts i_M hown hK hP 0 rfl rfl 14 (by decide) (hts _ m_390) (fun _ h9 => h9) rfl d_M_sampleY_53 ?_
      refine lv_if_ne (tgt := 85) hx hb d_M_sampleY_56 (by decide) (fun c4 => ?_) (fun c4 => ?_)
      · skip
        have hw := hw.1 c4
        refine lv_iload_n hx hb d_M_sampleY_85 rfl (lv_at hl 0 rfl) ?_
        refine lv_aload_n hx hb d_M_sampleY_86 rfl (lv_at hl 1 rfl) ?_
        refine va_get (D := (dC, dI)) (ci := 2) (v := .int (MS.curves st)) (C := RM) (T := TM) (N := 15) hx hb hts i_M hown hK hP 0 rfl rfl 6 (by decide) (hts _ m_382) (fun _ h9 => h9) rfl d_M_sampleY_87 ?_
        refine lv_icmp_ne (tgt := 125) hx hb d_M_sampleY_90 (by decide) (fun c5 => ?_) (fun c5 => ?_)
        · skip
          have hw := hw.1 c5
          refine lv_aload_n hx hb d_M_sampleY_125 rfl (lv_at hl 1 rfl) ?_
          refine lv_aload_n hx hb d_M_sampleY_126 rfl (lv_at hl 1 rfl) ?_
          refine va_get (D := (dC, dI)) (ci := 2) (v := .ref (h 4)) (C := RM) (T := TM) (N := 15) hx hb hts i_M hown hK hP 0 rfl rfl 7 (by decide) (hts _ m_383) (fun _ h9 => h9) rfl d_M_sampleY_127 ?_
          refine lv_iload_n hx hb d_M_sampleY_130 rfl (lv_at hl 0 rfl) ?_
          refine lv_iconst (v := 1) hx hb d_M_sampleY_131 (by decide) ?_
          refine lv_isub hx hb d_M_sampleY_132 ?_
          obtain ⟨h6, hw⟩ := hw
          refine va_lald hx hb hK hP 4 3 rfl rfl h6 d_M_sampleY_133 ?_
          refine lv_aload_n hx hb d_M_sampleY_134 rfl (lv_at hl 1 rfl) ?_
          refine va_get (D := (dC, dI)) (ci := 2) (v := .ref (h 5)) (C := RM) (T := TM) (N := 15) hx hb hts i_M hown hK hP 0 rfl rfl 8 (by decide) (hts _ m_384) (fun _ h9 => h9) rfl d_M_sampleY_135 ?_
          refine lv_iload_n hx hb d_M_sampleY_138 rfl (lv_at hl 0 rfl) ?_
          obtain ⟨h7, hw⟩ := hw
          refine va_lald hx hb hK hP 5 4 rfl rfl h7 d_M_sampleY_139 ?_
          refine lv_lmul hx hb d_M_sampleY_140 ?_
          refine lv_aload_n hx hb d_M_sampleY_141 rfl (lv_at hl 1 rfl) ?_
          refine va_get (D := (dC, dI)) (ci := 2) (v := .ref (h 4)) (C := RM) (T := TM) (N := 15) hx hb hts i_M hown hK hP 0 rfl rfl 7 (by decide) (hts _ m_383) (fun _ h9 => h9) rfl d_M_sampleY_142 ?_
          refine lv_iload_n hx hb d_M_sampleY_145 rfl (lv_at hl 0 rfl) ?_
          refine va_lald hx hb hK hP 4 3 rfl rfl h7 d_M_sampleY_146 ?_
          refine lv_aload_n hx hb d_M_sampleY_147 rfl (lv_at hl 1 rfl) ?_
          refine va_get (D := (dC, dI)) (ci := 2) (v := .ref (h 5)) (C := RM) (T := TM) (N := 15) hx hb hts i_M hown hK hP 0 rfl rfl 8 (by decide) (hts _ m_384) (fun _ h9 => h9) rfl d_M_sampleY_148 ?_
          refine lv_iload_n hx hb d_M_sampleY_151 rfl (lv_at hl 0 rfl) ?_
          refine lv_iconst (v := 1) hx hb d_M_sampleY_152 (by decide) ?_
          refine lv_isub hx hb d_M_sampleY_153 ?_
          refine va_lald hx hb hK hP 5 4 rfl rfl h6 d_M_sampleY_154 ?_
          refine lv_lmul hx hb d_M_sampleY_155 ?_
          refine lv_ladd hx hb d_M_sampleY_156 ?_
          refine lv_ldc2 (v := 2) hx hb hown (hts _ m_475) d_M_sampleY_157 ?_
          refine lv_aload_n hx hb d_M_sampleY_160 rfl (lv_at hl 1 rfl) ?_
          refine va_get (D := (dC, dI)) (ci := 2) (v := .ref (h 5)) (C := RM) (T := TM) (N := 15) hx hb hts i_M hown hK hP 0 rfl rfl 8 (by decide) (hts _ m_384) (fun _ h9 => h9) rfl d_M_sampleY_161 ?_
          refine lv_iload_n hx hb d_M_sampleY_164 rfl (lv_at hl 0 rfl) ?_
          refine lv_iconst (v := 1) hx hb d_M_sampleY_165 (by decide) ?_
          refine lv_isub hx hb d_M_sampleY_166 ?_
          refine va_lald hx hb hK hP 5 4 rfl rfl h6 d_M_sampleY_167 ?_
          refine lv_lmul hx hb d_M_sampleY_168 ?_
          refine lv_aload_n hx hb d_M_sampleY_169 rfl (lv_at hl 1 rfl) ?_
          refine va_get (D := (dC, dI)) (ci := 2) (v := .ref (h 5)) (C := RM) (T := TM) (N := 15) hx hb hts i_M hown hK hP 0 rfl rfl 8 (by decide) (hts _ m_384) (fun _ h9 => h9) rfl d_M_sampleY_170 ?_
          refine lv_iload_n hx hb d_M_sampleY_173 rfl (lv_at hl 0 rfl) ?_
          refine va_lald hx hb hK hP 5 4 rfl rfl h7 d_M_sampleY_174 ?_
          refine lv_lmul hx hb d_M_sampleY_175 ?_
          have hFc := va_freeA hD hS hA
          refine va_callv (va_runV (As := [.long ((((MS.yu st) (y1 - 1).toNatClampNeg) * ((MS.yd st) y1.toNatClampNeg)) + (((MS.yu st) y1.toNatClampNeg) * ((MS.yd st) (y1 - 1).toNatClampNeg))), .long ((2 * ((MS.yd st) (y1 - 1).toNatClampNeg)) * ((MS.yd st) y1.toNatClampNeg))]) (rest := []) ⟨hx, hb, hml, hown, hts⟩ (t_M_lowest l dC dI h k _ st ((((MS.yu st) (y1 - 1).toNatClampNeg) * ((MS.yd st) y1.toNatClampNeg)) + (((MS.yu st) y1.toNatClampNeg) * ((MS.yd st) (y1 - 1).toNatClampNeg))) ((2 * ((MS.yd st) (y1 - 1).toNatClampNeg)) * ((MS.yd st) y1.toNatClampNeg)) hw) (cwV 2 hts (gV m_439 m_441 s_17 m_5 (cw_call m_442)) rfl rfl rfl (by decide +kernel) ⟨Nat.le_of_ble_eq_true rfl, Nat.le_of_ble_eq_true rfl⟩) ⟨pRw_bl, va_recv hK hP (ci := 2) (q0 := 0) rfl rfl, fun U hU hW => ⟨rfl, pRw_at hP hK hN hD hU hW⟩⟩ rfl rfl hl.1 rfl (lv_room (Nat.le_of_ble_eq_true rfl)) d_M_sampleY_176 ⟨Nat.le_of_ble_eq_true rfl, Nat.le_of_ble_eq_true rfl⟩) hS (fun q _ h => hFc q h) hFc (fun u8 t H1 locs ht hvm hw hB hz1 hk1 hS => ?_)
          obtain ⟨hP1, hD1⟩ := hB
          rw [ht] at hP1
          have hP := hP1
          have hD := hD1.weaken (fun _ q _ h => hFc q.1 h)
          generalize H1 = H at hP hS ⊢
          have hP : va_P (dC, dI) vwCl (WM h k u8) H := hP
          have hD : va_D A (WM h k u8) := hD
          exact W.vret hx hb hr (fun t ht hW => ⟨⟨u8, rfl, hw, by rw [ht]; exact hP, hD⟩, hS.F ht⟩) hS.2.2 d_M_sampleY_179
        · skip
          have hw := hw.2 c5
          refine lv_aload_n hx hb d_M_sampleY_93 rfl (lv_at hl 1 rfl) ?_
          refine lv_aload_n hx hb d_M_sampleY_94 rfl (lv_at hl 1 rfl) ?_
          refine va_get (D := (dC, dI)) (ci := 2) (v := .ref (h 4)) (C := RM) (T := TM) (N := 15) hx hb hts i_M hown hK hP 0 rfl rfl 7 (by decide) (hts _ m_383) (fun _ h9 => h9) rfl d_M_sampleY_95 ?_
          refine lv_iload_n hx hb d_M_sampleY_98 rfl (lv_at hl 0 rfl) ?_
          refine lv_iconst (v := 1) hx hb d_M_sampleY_99 (by decide) ?_
          refine lv_isub hx hb d_M_sampleY_100 ?_
          obtain ⟨h9, hw⟩ := hw
          refine va_lald hx hb hK hP 4 3 rfl rfl h9 d_M_sampleY_101 ?_
          refine lv_aload_n hx hb d_M_sampleY_102 rfl (lv_at hl 1 rfl) ?_
          refine va_get (D := (dC, dI)) (ci := 2) (v := .ref (h 5)) (C := RM) (T := TM) (N := 15) hx hb hts i_M hown hK hP 0 rfl rfl 8 (by decide) (hts _ m_384) (fun _ h9 => h9) rfl d_M_sampleY_103 ?_
          refine lv_iload_n hx hb d_M_sampleY_106 rfl (lv_at hl 0 rfl) ?_
          refine lv_iconst (v := 1) hx hb d_M_sampleY_107 (by decide) ?_
          refine lv_isub hx hb d_M_sampleY_108 ?_
          refine va_lald hx hb hK hP 5 4 rfl rfl h9 d_M_sampleY_109 ?_
          refine lv_ladd hx hb d_M_sampleY_110 ?_
          refine lv_aload_n hx hb d_M_sampleY_111 rfl (lv_at hl 1 rfl) ?_
          refine va_get (D := (dC, dI)) (ci := 2) (v := .ref (h 5)) (C := RM) (T := TM) (N := 15) hx hb hts i_M hown hK hP 0 rfl rfl 8 (by decide) (hts _ m_384) (fun _ h9 => h9) rfl d_M_sampleY_112 ?_
          refine lv_iload_n hx hb d_M_sampleY_115 rfl (lv_at hl 0 rfl) ?_
          refine lv_iconst (v := 1) hx hb d_M_sampleY_116 (by decide) ?_
          refine lv_isub hx hb d_M_sampleY_117 ?_
          refine va_lald hx hb hK hP 5 4 rfl rfl h9 d_M_sampleY_118 ?_
          have hFc := va_freeA hD hS hA
          refine va_callv (va_runV (As := [.long (((MS.yu st) (y1 - 1).toNatClampNeg) + ((MS.yd st) (y1 - 1).toNatClampNeg)), .long ((MS.yd st) (y1 - 1).toNatClampNeg)]) (rest := []) ⟨hx, hb, hml, hown, hts⟩ (t_M_lowest l dC dI h k _ st (((MS.yu st) (y1 - 1).toNatClampNeg) + ((MS.yd st) (y1 - 1).toNatClampNeg)) ((MS.yd st) (y1 - 1).toNatClampNeg) hw) (cwV 2 hts (gV m_439 m_441 s_17 m_5 (cw_call m_442)) rfl rfl rfl (by decide +kernel) ⟨Nat.le_of_ble_eq_true rfl, Nat.le_of_ble_eq_true rfl⟩) ⟨pRw_bl, va_recv hK hP (ci := 2) (q0 := 0) rfl rfl, fun U hU hW => ⟨rfl, pRw_at hP hK hN hD hU hW⟩⟩ rfl rfl hl.1 rfl (lv_room (Nat.le_of_ble_eq_true rfl)) d_M_sampleY_119 ⟨Nat.le_of_ble_eq_true rfl, Nat.le_of_ble_eq_true rfl⟩) hS (fun q _ h => hFc q h) hFc (fun u10 t H1 locs ht hvm hw hB hz1 hk1 hS => ?_)
          obtain ⟨hP1, hD1⟩ := hB
          rw [ht] at hP1
          have hP := hP1
          have hD := hD1.weaken (fun _ q _ h => hFc q.1 h)
          generalize H1 = H at hP hS ⊢
          have hP : va_P (dC, dI) vwCl (WM h k u10) H := hP
          have hD : va_D A (WM h k u10) := hD
          refine lv_goto (tgt := 179) hx hb d_M_sampleY_122 (by decide) ?_
          exact W.vret hx hb hr (fun t ht hW => ⟨⟨u10, rfl, hw, by rw [ht]; exact hP, hD⟩, hS.F ht⟩) hS.2.2 d_M_sampleY_179
      · skip
        have hw := hw.2 c4
        refine lv_aload_n hx hb d_M_sampleY_59 rfl (lv_at hl 1 rfl) ?_
        refine lv_aload_n hx hb d_M_sampleY_60 rfl (lv_at hl 1 rfl) ?_
        refine va_get (D := (dC, dI)) (ci := 2) (v := .ref (h 4)) (C := RM) (T := TM) (N := 15) hx hb hts i_M hown hK hP 0 rfl rfl 7 (by decide) (hts _ m_383) (fun _ h9 => h9) rfl d_M_sampleY_61 ?_
        refine lv_iconst (v := 0) hx hb d_M_sampleY_64 (by decide) ?_
        refine va_lald hx hb hK hP 4 3 rfl rfl (by unfold vp_in; decide) d_M_sampleY_65 ?_
        refine lv_aload_n hx hb d_M_sampleY_66 rfl (lv_at hl 1 rfl) ?_
        refine va_get (D := (dC, dI)) (ci := 2) (v := .ref (h 5)) (C := RM) (T := TM) (N := 15) hx hb hts i_M hown hK hP 0 rfl rfl 8 (by decide) (hts _ m_384) (fun _ h9 => h9) rfl d_M_sampleY_67 ?_
        refine lv_iconst (v := 0) hx hb d_M_sampleY_70 (by decide) ?_
        refine va_lald hx hb hK hP 5 4 rfl rfl (by unfold vp_in; decide) d_M_sampleY_71 ?_
        refine lv_lsub hx hb d_M_sampleY_72 ?_
        refine lv_aload_n hx hb d_M_sampleY_73 rfl (lv_at hl 1 rfl) ?_
        refine va_get (D := (dC, dI)) (ci := 2) (v := .ref (h 5)) (C := RM) (T := TM) (N := 15) hx hb hts i_M hown hK hP 0 rfl rfl 8 (by decide) (hts _ m_384) (fun _ h9 => h9) rfl d_M_sampleY_74 ?_
        refine lv_iconst (v := 0) hx hb d_M_sampleY_77 (by decide) ?_
        refine va_lald hx hb hK hP 5 4 rfl rfl (by unfold vp_in; decide) d_M_sampleY_78 ?_
        have hFc := va_freeA hD hS hA
        refine va_callv (va_runV (As := [.long (((MS.yu st) (0 : Int32).toNatClampNeg) - ((MS.yd st) (0 : Int32).toNatClampNeg)), .long ((MS.yd st) (0 : Int32).toNatClampNeg)]) (rest := []) ⟨hx, hb, hml, hown, hts⟩ (t_M_lowest l dC dI h k _ st (((MS.yu st) (0 : Int32).toNatClampNeg) - ((MS.yd st) (0 : Int32).toNatClampNeg)) ((MS.yd st) (0 : Int32).toNatClampNeg) hw) (cwV 2 hts (gV m_439 m_441 s_17 m_5 (cw_call m_442)) rfl rfl rfl (by decide +kernel) ⟨Nat.le_of_ble_eq_true rfl, Nat.le_of_ble_eq_true rfl⟩) ⟨pRw_bl, va_recv hK hP (ci := 2) (q0 := 0) rfl rfl, fun U hU hW => ⟨rfl, pRw_at hP hK hN hD hU hW⟩⟩ rfl rfl hl.1 rfl (lv_room (Nat.le_of_ble_eq_true rfl)) d_M_sampleY_79 ⟨Nat.le_of_ble_eq_true rfl, Nat.le_of_ble_eq_true rfl⟩) hS (fun q _ h => hFc q h) hFc (fun u11 t H1 locs ht hvm hw hB hz1 hk1 hS => ?_)
        obtain ⟨hP1, hD1⟩ := hB
        rw [ht] at hP1
        have hP := hP1
        have hD := hD1.weaken (fun _ q _ h => hFc q.1 h)
        generalize H1 = H at hP hS ⊢
        have hP : va_P (dC, dI) vwCl (WM h k u11) H := hP
        have hD : va_D A (WM h k u11) := hD
        refine lv_goto (tgt := 179) hx hb d_M_sampleY_82 (by decide) ?_
        exact W.vret hx hb hr (fun t ht hW => ⟨⟨u11, rfl, hw, by rw [ht]; exact hP, hD⟩, hS.F ht⟩) hS.2.2 d_M_sampleY_179
    · skip
      have hw := hw.2 c3
      refine lv_aload_n hx hb d_M_sampleY_33 rfl (lv_at hl 1 rfl) ?_
      refine lv_aload_n hx hb d_M_sampleY_34 rfl (lv_at hl 1 rfl) ?_
      refine va_get (D := (dC, dI)) (ci := 2) (v := .ref (h 4)) (C := RM) (T := TM) (N := 15) hx hb hts i_M hown hK hP 0 rfl rfl 7 (by decide) (hts _ m_383) (fun _ h9 => h9) rfl d_M_sampleY_35 ?_
      refine lv_iload_n hx hb d_M_sampleY_38 rfl (lv_at hl 0 rfl) ?_
      obtain ⟨h12, hw⟩ := hw
      refine va_lald hx hb hK hP 4 3 rfl rfl h12 d_M_sampleY_39 ?_
      refine lv_aload_n hx hb d_M_sampleY_40 rfl (lv_at hl 1 rfl) ?_
      refine va_get (D := (dC, dI)) (ci := 2) (v := .ref (h 5)) (C := RM) (T := TM) (N := 15) hx hb hts i_M hown hK hP 0 rfl rfl 8 (by decide) (hts _ m_384) (fun _ h9 => h9) rfl d_M_sampleY_41 ?_
      refine lv_iload_n hx hb d_M_sampleY_44 rfl (lv_at hl 0 rfl) ?_
      refine va_lald hx hb hK hP 5 4 rfl rfl h12 d_M_sampleY_45 ?_
      have hFc := va_freeA hD hS hA
      refine va_callv (va_runV (As := [.long ((MS.yu st) y1.toNatClampNeg), .long ((MS.yd st) y1.toNatClampNeg)]) (rest := []) ⟨hx, hb, hml, hown, hts⟩ (t_M_lowest l dC dI h k _ st ((MS.yu st) y1.toNatClampNeg) ((MS.yd st) y1.toNatClampNeg) hw) (cwV 2 hts (gV m_439 m_441 s_17 m_5 (cw_call m_442)) rfl rfl rfl (by decide +kernel) ⟨Nat.le_of_ble_eq_true rfl, Nat.le_of_ble_eq_true rfl⟩) ⟨pRw_bl, va_recv hK hP (ci := 2) (q0 := 0) rfl rfl, fun U hU hW => ⟨rfl, pRw_at hP hK hN hD hU hW⟩⟩ rfl rfl hl.1 rfl (lv_room (Nat.le_of_ble_eq_true rfl)) d_M_sampleY_46 ⟨Nat.le_of_ble_eq_true rfl, Nat.le_of_ble_eq_true rfl⟩) hS (fun q _ h => hFc q h) hFc (fun u13 t H1 locs ht hvm hw hB hz1 hk1 hS => ?_)
      obtain ⟨hP1, hD1⟩ := hB
      rw [ht] at hP1
      have hP := hP1
      have hD := hD1.weaken (fun _ q _ h => hFc q.1 h)
      generalize H1 = H at hP hS ⊢
      have hP : va_P (dC, dI) vwCl (WM h k u13) H := hP
      have hD : va_D A (WM h k u13) := hD
      refine lv_goto (tgt := 179) hx hb d_M_sampleY_49 (by decide) ?_
      exact W.vret hx hb hr (fun t ht hW => ⟨⟨u13, rfl, hw, by rw [ht]; exact hP, hD⟩, hS.F ht⟩) hS.2.2 d_M_sampleY_179
  · skip
    have hw := hw.2 c2
    refine lv_aload_n hx hb d_M_sampleY_14 rfl (lv_at hl 1 rfl) ?_
    refine lv_lconst (v := 0) hx hb d_M_sampleY_15 (by decide) ?_
    refine lv_lconst (v := 1) hx hb d_M_sampleY_16 (by decide) ?_
    have hFc := va_freeA hD hS hA
    refine va_callv (va_runV (As := [.long 0, .long 1]) (rest := []) ⟨hx, hb, hml, hown, hts⟩ (t_M_lowest l dC dI h k _ st (0 : Int64) (1 : Int64) hw) (cwV 2 hts (gV m_439 m_441 s_17 m_5 (cw_call m_442)) rfl rfl rfl (by decide +kernel) ⟨Nat.le_of_ble_eq_true rfl, Nat.le_of_ble_eq_true rfl⟩) ⟨pRw_bl, va_recv hK hP (ci := 2) (q0 := 0) rfl rfl, fun U hU hW => ⟨rfl, pRw_at hP hK hN hD hU hW⟩⟩ rfl rfl hl.1 rfl (lv_room (Nat.le_of_ble_eq_true rfl)) d_M_sampleY_17 ⟨Nat.le_of_ble_eq_true rfl, Nat.le_of_ble_eq_true rfl⟩) hS (fun q _ h => hFc q h) hFc (fun u14 t H1 locs ht hvm hw hB hz1 hk1 hS => ?_)
    obtain ⟨hP1, hD1⟩ := hB
    rw [ht] at hP1
    have hP := hP1
    have hD := hD1.weaken (fun _ q _ h => hFc q.1 h)
    generalize H1 = H at hP hS ⊢
    have hP : va_P (dC, dI) vwCl (WM h k u14) H := hP
    have hD : va_D A (WM h k u14) := hD
    refine lv_goto (tgt := 179) hx hb d_M_sampleY_20 (by decide) ?_
    exact W.vret hx hb hr (fun t ht hW => ⟨⟨u14, rfl, hw, by rw [ht]; exact hP, hD⟩, hS.F ht⟩) hS.2.2 d_M_sampleY_179
def w_M_lineOf_7 (post : Int32 → MS → Prop) : Nat → MS → Int32 → Int32 → Prop
  | 0, _, _, _ => False
  | n + 1, st, v2, v3 => ((MS.lines st) ≤ v3 → (post (-1) st)) ∧ (¬ (MS.lines st) ≤ v3 → (vp_in ((3 * v3) + 1) 18 ∧ ((¬ ((MS.num st) ((3 * v3) + 1).toNatClampNeg) = 0 → (w_M_lineAt st (fun u6 => (vp_in v2 6 ∧ ((¬ (MS.up u6) = ((MS.yu u6) v2.toNatClampNeg) → (w_M_lineOf_7 post n u6 v2 (v3 + 1))) ∧ ((MS.up u6) = ((MS.yu u6) v2.toNatClampNeg) → ((¬ (MS.down u6) = ((MS.yd u6) v2.toNatClampNeg) → (w_M_lineOf_7 post n u6 v2 (v3 + 1))) ∧ ((MS.down u6) = ((MS.yd u6) v2.toNatClampNeg) → (post v3 u6))))))) v3)) ∧ (((MS.num st) ((3 * v3) + 1).toNatClampNeg) = 0 → (w_M_lineOf_7 post n st v2 (v3 + 1))))))
set_option maxHeartbeats 4000000 in
set_option maxRecDepth 100000 in
theorem k_M_lineOf_7 {p : Program} {l : Launch} {e : Env} {s : State} {m : MethodId} {args : Array Value} {below : List Frame} {meth : Method} {c : Code} {dC : Nat → ClassId} {dI : Nat → Nat → Nat} {h : Nat → Nat} {k : Nat → ClassId} {A : Nat → Prop} {post : Int32 → MS → Prop} (C0 : cxt p s m args meth c prog_4_method_30_code 4 RM (some .int)) (hK : va_K (dC, dI) vwCl (YM k) s) (hN : va_Nw nestW s) (hA : ∀ q, s.heap.size ≤ q → A q) : ∀ (n : Nat), ∀ (st : MS) (v2 : Int32) (v3 : Int32) (H : Heap) (locs : List Loc), va_P (dC, dI) vwCl (WM h k st) H → va_D A (WM h k st) → va_S A s.heap H locs → ∀ ls, lv_has ls 4 [(0, .ref (h 0)), (2, .int v2), (3, .int v3)] → w_M_lineOf_7 post n st v2 v3 → W p l e ({ frames := 4, cells := 0, slots := 0, locals := 95 } : Room) s m args below meth c H locs 0 0 (MQ below (va_Qi post (fun u t => va_P (dC, dI) vwCl (WM h k u) t.heap ∧ va_D A (WM h k u)) A) args s 0 0 A) (F0 m 7 ls []) := by
  obtain ⟨hx, hb, hr, hml, hown, hts, hlocks⟩ := id C0
  intro n
  induction n with
  | zero =>
    intro st v2 v3 H locs hP hD hS ls hl hw
    exact False.elim hw
  | succ n ih =>
    intro st v2 v3 H locs hP hD hS ls hl hw
    rw [w_M_lineOf_7] at hw
    refine lv_iload_n hx hb d_M_lineOf_7 rfl (lv_at hl 2 rfl) ?_
    refine lv_aload_n hx hb d_M_lineOf_8 rfl (lv_at hl 0 rfl) ?_
    refine va_get (D := (dC, dI)) (ci := 2) (v := .int (MS.lines st)) (C := RM) (T := TM) (N := 15) hx hb hts i_M hown hK hP 0 rfl rfl 1 (by decide) (hts _ m_377) (fun _ h9 => h9) rfl d_M_lineOf_9 ?_
    refine lv_icmp_ge (tgt := 72) hx hb d_M_lineOf_12 (by decide) (fun c3 => ?_) (fun c3 => ?_)
    · skip
      have hw := hw.1 c3
      refine lv_iconst (v := (-1)) hx hb d_M_lineOf_72 (by decide) ?_
      exact W.iret (v := (-1)) hx hb hr (fun t ht hW => ⟨⟨(-1), st, rfl, hw, by rw [ht]; exact hP, hD⟩, hS.F ht⟩) hS.2.2 d_M_lineOf_73
    · skip
      have hw := hw.2 c3
      refine lv_aload_n hx hb d_M_lineOf_15 rfl (lv_at hl 0 rfl) ?_
      refine va_get (D := (dC, dI)) (ci := 2) (v := .ref (h 1)) (C := RM) (T := TM) (N := 15) hx hb hts i_M hown hK hP 0 rfl rfl 2 (by decide) (hts _ m_378) (fun _ h9 => h9) rfl d_M_lineOf_16 ?_
      refine lv_iconst (v := 3) hx hb d_M_lineOf_19 (by decide) ?_
      refine lv_iload_n hx hb d_M_lineOf_20 rfl (lv_at hl 2 rfl) ?_
      refine lv_imul hx hb d_M_lineOf_21 ?_
      refine lv_iconst (v := 1) hx hb d_M_lineOf_22 (by decide) ?_
      refine lv_iadd hx hb d_M_lineOf_23 ?_
      obtain ⟨h4, hw⟩ := hw
      refine va_iald hx hb hK hP 1 0 rfl rfl h4 d_M_lineOf_24 ?_
      refine lv_if_ne (tgt := 31) hx hb d_M_lineOf_25 (by decide) (fun c5 => ?_) (fun c5 => ?_)
      · skip
        have hw := hw.1 c5
        refine lv_aload_n hx hb d_M_lineOf_31 rfl (lv_at hl 0 rfl) ?_
        refine lv_iload_n hx hb d_M_lineOf_32 rfl (lv_at hl 2 rfl) ?_
        have hFc := va_freeA hD hS hA
        refine va_callv (va_runV (As := [.int v3]) (rest := []) ⟨hx, hb, hml, hown, hts⟩ (t_M_lineAt l dC dI h k _ st v3 hw) (cwV 1 hts (gV m_480 m_482 s_22 m_5 (cw_call m_483)) rfl rfl rfl (by decide +kernel) ⟨Nat.le_of_ble_eq_true rfl, Nat.le_of_ble_eq_true rfl⟩) ⟨pRw_bl, va_recv hK hP (ci := 2) (q0 := 0) rfl rfl, fun U hU hW => ⟨rfl, pRw_at hP hK hN hD hU hW⟩⟩ rfl rfl hl.1 rfl (lv_room (Nat.le_of_ble_eq_true rfl)) d_M_lineOf_33 ⟨Nat.le_of_ble_eq_true rfl, Nat.le_of_ble_eq_true rfl⟩) hS (fun q _ h => hFc q h) hFc (fun u6 t H1 locs ht hvm hw hB hz1 hk1 hS => ?_)
        obtain ⟨hP1, hD1⟩ := hB
        rw [ht] at hP1
        have hP := hP1
        have hD := hD1.weaken (fun _ q _ h => hFc q.1 h)
        generalize H1 = H at hP hS ⊢
        have hP : va_P (dC, dI) vwCl (WM h k u6) H := hP
        have hD : va_D A (WM h k u6) := hD
        refine lv_aload_n hx hb d_M_lineOf_36 rfl (lv_at hl 0 rfl) ?_
        refine va_get (D := (dC, dI)) (ci := 2) (v := .long (MS.up u6)) (C := RM) (T := TM) (N := 15) hx hb hts i_M hown hK hP 0 rfl rfl 9 (by decide) (hts _ m_385) (fun _ h9 => h9) rfl d_M_lineOf_37 ?_
        refine lv_aload_n hx hb d_M_lineOf_40 rfl (lv_at hl 0 rfl) ?_
        refine va_get (D := (dC, dI)) (ci := 2) (v := .ref (h 4)) (C := RM) (T := TM) (N := 15) hx hb hts i_M hown hK hP 0 rfl rfl 7 (by decide) (hts _ m_383) (fun _ h9 => h9) rfl d_M_lineOf_41 ?_
        refine lv_iload_n hx hb d_M_lineOf_44 rfl (lv_at hl 1 rfl) ?_
        obtain ⟨h7, hw⟩ := hw
        refine va_lald hx hb hK hP 4 3 rfl rfl h7 d_M_lineOf_45 ?_
        refine W.lcmp hx hb d_M_lineOf_46 ?_
        refine lv_if_ne (tgt := 66) hx hb d_M_lineOf_47 (by decide) (fun c8 => ?_) (fun c8 => ?_)
        · have c8 : ¬ (MS.up u6) = ((MS.yu u6) v2.toNatClampNeg) := (fun q => c8 (lgc_eq.mpr q))
          have hw := hw.1 c8
          refine lv_iinc (v := (v3 + 1)) (lv' := [(3, .int (v3 + 1)), (0, .ref (h 0)), (2, .int v2)]) hx hb d_M_lineOf_66 hl (k := 2) rfl rfl (by decide) rfl (fun ls hl => ?_)
          refine lv_goto (tgt := 7) hx hb d_M_lineOf_69 (by decide) ?_
          exact ih u6 v2 (v3 + 1) _ _ hP hD hS ls (lv_sub hl [1, 2, 0] rfl) hw
        · have c8 : (MS.up u6) = ((MS.yu u6) v2.toNatClampNeg) := (lgc_eq.mp c8)
          have hw := hw.2 c8
          refine lv_aload_n hx hb d_M_lineOf_50 rfl (lv_at hl 0 rfl) ?_
          refine va_get (D := (dC, dI)) (ci := 2) (v := .long (MS.down u6)) (C := RM) (T := TM) (N := 15) hx hb hts i_M hown hK hP 0 rfl rfl 10 (by decide) (hts _ m_386) (fun _ h9 => h9) rfl d_M_lineOf_51 ?_
          refine lv_aload_n hx hb d_M_lineOf_54 rfl (lv_at hl 0 rfl) ?_
          refine va_get (D := (dC, dI)) (ci := 2) (v := .ref (h 5)) (C := RM) (T := TM) (N := 15) hx hb hts i_M hown hK hP 0 rfl rfl 8 (by decide) (hts _ m_384) (fun _ h9 => h9) rfl d_M_lineOf_55 ?_
          refine lv_iload_n hx hb d_M_lineOf_58 rfl (lv_at hl 1 rfl) ?_
          refine va_lald hx hb hK hP 5 4 rfl rfl h7 d_M_lineOf_59 ?_
          refine W.lcmp hx hb d_M_lineOf_60 ?_
          refine lv_if_ne (tgt := 66) hx hb d_M_lineOf_61 (by decide) (fun c9 => ?_) (fun c9 => ?_)
          · have c9 : ¬ (MS.down u6) = ((MS.yd u6) v2.toNatClampNeg) := (fun q => c9 (lgc_eq.mpr q))
            have hw := hw.1 c9
            refine lv_iinc (v := (v3 + 1)) (lv' := [(3, .int (v3 + 1)), (0, .ref (h 0)), (2, .int v2)]) hx hb d_M_lineOf_66 hl (k := 2) rfl rfl (by decide) rfl (fun ls hl => ?_)
            refine lv_goto (tgt := 7) hx hb d_M_lineOf_69 (by decide) ?_
            exact ih u6 v2 (v3 + 1) _ _ hP hD hS ls (lv_sub hl [1, 2, 0] rfl) hw
          · have c9 : (MS.down u6) = ((MS.yd u6) v2.toNatClampNeg) := (lgc_eq.mp c9)
            have hw := hw.2 c9
            refine lv_iload_n hx hb d_M_lineOf_64 rfl (lv_at hl 2 rfl) ?_
            exact W.iret (v := v3) hx hb hr (fun t ht hW => ⟨⟨v3, u6, rfl, hw, by rw [ht]; exact hP, hD⟩, hS.F ht⟩) hS.2.2 d_M_lineOf_65
      · skip
        have hw := hw.2 c5
        refine lv_goto (tgt := 66) hx hb d_M_lineOf_28 (by decide) ?_
        refine lv_iinc (v := (v3 + 1)) (lv' := [(3, .int (v3 + 1)), (0, .ref (h 0)), (2, .int v2)]) hx hb d_M_lineOf_66 hl (k := 2) rfl rfl (by decide) rfl (fun ls hl => ?_)
        refine lv_goto (tgt := 7) hx hb d_M_lineOf_69 (by decide) ?_
        exact ih st v2 (v3 + 1) _ _ hP hD hS ls (lv_sub hl [1, 2, 0] rfl) hw
def w_M_lineOf (st : MS) (post : Int32 → MS → Prop) (p0 : Int32) (p1 : Int32) : Prop := w_M_curvesOf st (fun u1 => (∃ z, w_M_lineOf_7 post z u1 p1 0)) p0
set_option maxHeartbeats 4000000 in
set_option maxRecDepth 100000 in
theorem t_M_lineOf (l : Launch) (dC : Nat → ClassId) (dI : Nat → Nat → Nat) (h : Nat → Nat) (k : Nat → ClassId) (sz : Nat) (st : MS) (p0 : Int32) (p1 : Int32) {post : Int32 → MS → Prop} (hw : w_M_lineOf st post p0 p1) : Met l y_M_lineOf (Cond.code y_M_lineOf prog_4_method_30_code 4 (some .int) :: cw) ({ frames := 4, cells := 0, slots := 0, locals := 95 } : Room) (va_Pc [.ref (h 0), .int p0, .int p1] (pRw (dC, dI) (WM h k st) (YM k) sz)) (va_Qi post (fun u t => va_P (dC, dI) vwCl (WM h k u) t.heap ∧ va_D (va_A (WM h k st) sz) (WM h k u)) (va_A (WM h k st) sz)) 0 0 (va_A (WM h k st) sz) := by
  refine Met.ofW (cc := prog_4_method_30_code) (maxL := 4) (ret := (some .int)) (by decide) rfl ?_
  intro p e s m args below meth c s₁ B hml hv
  obtain ⟨rfl, hsz, hP, hK, hN, hD0⟩ := hv
  have hx := B.exec
  have hb := B.bytes
  have hr := B.returns
  have hts : ∀ w ∈ cw, w.before _ s = true := fun w h => atoms_spec (ws := (Cond.code y_M_lineOf prog_4_method_30_code 4 (some .int) :: cw)) B.pre w (List.mem_cons_of_mem _ h)
  have hown : s.vm.findClass RM = some m.cls := findClass_of_methodNamed B.named
  have hlocks := B.notSynchronized
  have C0 : cxt p s m _ meth c prog_4_method_30_code 4 RM (some .int) := ⟨hx, hb, hr, hml, hown, hts, hlocks⟩
  subst hsz
  have hD := hD0.self (sz := s.heap.size)
  generalize hAe : va_A (WM h k st) s.heap.size = A at hD ⊢
  have hA : ∀ q : Nat, s.heap.size ≤ q → A q := fun q h => by rw [← hAe]; exact Or.inr h
  have hS : va_S A s.heap s.heap [] := va_S.rf
  have hl := lv_entry ([.ref (h 0), .int p0, .int p1]) (n := 4) (Nat.le_of_ble_eq_true rfl)
  rw [lg_entry_eq]
  generalize (lg_sl ([.ref (h 0), .int p0, .int p1]) ++ List.replicate (4 - (lg_sl ([.ref (h 0), .int p0, .int p1])).length) Slot.unset).toArray = ls at hl ⊢
  have hl : lv_has ls 4 [(0, .ref (h 0)), (1, .int p0), (2, .int p1)] := hl
  unfold w_M_lineOf at hw
  refine lv_aload_n hx hb d_M_lineOf_0 rfl (lv_at hl 0 rfl) ?_
  refine lv_iload_n hx hb d_M_lineOf_1 rfl (lv_at hl 1 rfl) ?_
  have hFc := va_freeA hD hS hA
  refine va_callv (va_runV (As := [.int p0]) (rest := []) ⟨hx, hb, hml, hown, hts⟩ (t_M_curvesOf l dC dI h k _ st p0 hw) (cwV 1 hts (gV m_467 m_469 s_19 m_5 (cw_call m_470)) rfl rfl rfl (by decide +kernel) ⟨Nat.le_of_ble_eq_true rfl, Nat.le_of_ble_eq_true rfl⟩) ⟨pRw_bl, va_recv hK hP (ci := 2) (q0 := 0) rfl rfl, fun U hU hW => ⟨rfl, pRw_at hP hK hN hD hU hW⟩⟩ rfl rfl hl.1 rfl (lv_room (Nat.le_of_ble_eq_true rfl)) d_M_lineOf_2 ⟨Nat.le_of_ble_eq_true rfl, Nat.le_of_ble_eq_true rfl⟩) hS (fun q _ h => hFc q h) hFc (fun u1 t H1 locs ht hvm hw hB hz1 hk1 hS => ?_)
  obtain ⟨hP1, hD1⟩ := hB
  rw [ht] at hP1
  have hP := hP1
  have hD := hD1.weaken (fun _ q _ h => hFc q.1 h)
  generalize H1 = H at hP hS ⊢
  have hP : va_P (dC, dI) vwCl (WM h k u1) H := hP
  have hD : va_D A (WM h k u1) := hD
  refine lv_iconst (v := 0) hx hb d_M_lineOf_5 (by decide) ?_
  refine lv_istore_n (lv' := [(3, .int 0), (0, .ref (h 0)), (1, .int p0), (2, .int p1)]) hx hb d_M_lineOf_6 rfl hl (by decide) rfl (fun ls hl => ?_)
  obtain ⟨n2, hw⟩ := hw
  exact k_M_lineOf_7 C0 hK hN hA n2 u1 p1 0 _ _ hP hD hS ls (lv_sub hl [1, 3, 0] rfl) hw
def w_M_ends (st : MS) (post : Int32 → MS → Prop) (p0 : Int32) (p1 : Int32) (p2 : Int32) : Prop := w_M_curvesOf st (fun u1 => (∀ y2 : Int32, y2 = (MS.curves u1) → (w_M_in (fun r3 => ((r3 = 0 → (w_M_curvesOf u1 (fun u5 => ((0 ≤ p1 → ((p1 < y2 → (w_M_lineAt u5 (fun u8 => (w_M_below u8 (fun r9 => (post r9 u8)) )) ((-1) : Int32))) ∧ (¬ p1 < y2 → (post (MS.curves u5) u5)))) ∧ (¬ 0 ≤ p1 → (post (-1) u5)))) p2)) ∧ (¬ r3 = 0 → (w_M_lineOf u1 (fun r11 u10 => (w_M_curvesOf u10 (fun u12 => ((0 ≤ p1 → ((p1 < y2 → (w_M_lineAt u12 (fun u15 => (w_M_below u15 (fun r16 => (post r16 u15)) )) r11)) ∧ (¬ p1 < y2 → (post (MS.curves u12) u12)))) ∧ (¬ 0 ≤ p1 → (post (-1) u12)))) p2)) p0 p1)))) p1.toInt64 (0 : Int64) ((y2 - 1).toInt64)))) p0
set_option maxHeartbeats 4000000 in
set_option maxRecDepth 100000 in
theorem t_M_ends (l : Launch) (dC : Nat → ClassId) (dI : Nat → Nat → Nat) (h : Nat → Nat) (k : Nat → ClassId) (sz : Nat) (st : MS) (p0 : Int32) (p1 : Int32) (p2 : Int32) {post : Int32 → MS → Prop} (hw : w_M_ends st post p0 p1 p2) : Met l y_M_ends (Cond.code y_M_ends prog_4_method_31_code 6 (some .int) :: cw) ({ frames := 5, cells := 0, slots := 0, locals := 118 } : Room) (va_Pc [.ref (h 0), .int p0, .int p1, .int p2] (pRw (dC, dI) (WM h k st) (YM k) sz)) (va_Qi post (fun u t => va_P (dC, dI) vwCl (WM h k u) t.heap ∧ va_D (va_A (WM h k st) sz) (WM h k u)) (va_A (WM h k st) sz)) 0 0 (va_A (WM h k st) sz) := by
  refine Met.ofW (cc := prog_4_method_31_code) (maxL := 6) (ret := (some .int)) (by decide) rfl ?_
  intro p e s m args below meth c s₁ B hml hv
  obtain ⟨rfl, hsz, hP, hK, hN, hD0⟩ := hv
  have hx := B.exec
  have hb := B.bytes
  have hr := B.returns
  have hts : ∀ w ∈ cw, w.before _ s = true := fun w h => atoms_spec (ws := (Cond.code y_M_ends prog_4_method_31_code 6 (some .int) :: cw)) B.pre w (List.mem_cons_of_mem _ h)
  have hown : s.vm.findClass RM = some m.cls := findClass_of_methodNamed B.named
  have hlocks := B.notSynchronized
  have C0 : cxt p s m _ meth c prog_4_method_31_code 6 RM (some .int) := ⟨hx, hb, hr, hml, hown, hts, hlocks⟩
  subst hsz
  have hD := hD0.self (sz := s.heap.size)
  generalize hAe : va_A (WM h k st) s.heap.size = A at hD ⊢
  have hA : ∀ q : Nat, s.heap.size ≤ q → A q := fun q h => by rw [← hAe]; exact Or.inr h
  have hS : va_S A s.heap s.heap [] := va_S.rf
  have hl := lv_entry ([.ref (h 0), .int p0, .int p1, .int p2]) (n := 6) (Nat.le_of_ble_eq_true rfl)
  rw [lg_entry_eq]
  generalize (lg_sl ([.ref (h 0), .int p0, .int p1, .int p2]) ++ List.replicate (6 - (lg_sl ([.ref (h 0), .int p0, .int p1, .int p2])).length) Slot.unset).toArray = ls at hl ⊢
  have hl : lv_has ls 6 [(0, .ref (h 0)), (1, .int p0), (2, .int p1), (3, .int p2)] := hl
  unfold w_M_ends at hw
  refine lv_aload_n hx hb d_M_ends_0 rfl (lv_at hl 0 rfl) ?_
  refine lv_iload_n hx hb d_M_ends_1 rfl (lv_at hl 1 rfl) ?_
  have hFc := va_freeA hD hS hA
  refine va_callv (va_runV (As := [.int p0]) (rest := []) ⟨hx, hb, hml, hown, hts⟩ (t_M_curvesOf l dC dI h k _ st p0 hw) (cwV 1 hts (gV m_467 m_469 s_19 m_5 (cw_call m_470)) rfl rfl rfl (by decide +kernel) ⟨Nat.le_of_ble_eq_true rfl, Nat.le_of_ble_eq_true rfl⟩) ⟨pRw_bl, va_recv hK hP (ci := 2) (q0 := 0) rfl rfl, fun U hU hW => ⟨rfl, pRw_at hP hK hN hD hU hW⟩⟩ rfl rfl hl.1 rfl (lv_room (Nat.le_of_ble_eq_true rfl)) d_M_ends_2 ⟨Nat.le_of_ble_eq_true rfl, Nat.le_of_ble_eq_true rfl⟩) hS (fun q _ h => hFc q h) hFc (fun u1 t H1 locs ht hvm hw hB hz1 hk1 hS => ?_)
  obtain ⟨hP1, hD1⟩ := hB
  rw [ht] at hP1
  have hP := hP1
  have hD := hD1.weaken (fun _ q _ h => hFc q.1 h)
  generalize H1 = H at hP hS ⊢
  have hP : va_P (dC, dI) vwCl (WM h k u1) H := hP
  have hD : va_D A (WM h k u1) := hD
  refine lv_aload_n hx hb d_M_ends_5 rfl (lv_at hl 0 rfl) ?_
  refine va_get (D := (dC, dI)) (ci := 2) (v := .int (MS.curves u1)) (C := RM) (T := TM) (N := 15) hx hb hts i_M hown hK hP 0 rfl rfl 6 (by decide) (hts _ m_382) (fun _ h9 => h9) rfl d_M_ends_6 ?_
  refine lv_topi (fun y2 ey2 => ?_)
  have hw := hw y2 ey2
  refine lv_istore (lv' := [(4, .int y2), (0, .ref (h 0)), (1, .int p0), (2, .int p1), (3, .int p2)]) hx hb d_M_ends_9 hl (by decide) rfl (fun ls hl => ?_)
  refine lv_iload_n hx hb d_M_ends_11 rfl (lv_at hl 3 rfl) ?_
  refine lv_i2l (v := p1.toInt64) hx hb d_M_ends_12 rfl ?_
  refine lv_lconst (v := 0) hx hb d_M_ends_13 (by decide) ?_
  refine lv_iload hx hb d_M_ends_14 (lv_at hl 0 rfl) ?_
  refine lv_iconst (v := 1) hx hb d_M_ends_16 (by decide) ?_
  refine lv_isub hx hb d_M_ends_17 ?_
  refine lv_i2l (v := (y2 - 1).toInt64) hx hb d_M_ends_18 rfl ?_
  refine vp_callSi (va_Run.run (va_runS (As := [.long p1.toInt64, .long 0, .long ((y2 - 1).toInt64)]) (rest := []) ⟨hx, hb, hml, hown, hts⟩ (t_M_in l p1.toInt64 (0 : Int64) ((y2 - 1).toInt64) hw) (va_cwS 3 hts (gS m_432 m_433 m_5 (cw_call m_434)) rfl rfl rfl (by decide +kernel) ⟨Nat.le_of_ble_eq_true rfl, Nat.le_of_ble_eq_true rfl⟩) ⟨pSt_bl, fun U hU hW => ⟨rfl, trivial⟩⟩ rfl rfl hl.1 rfl (lv_room (Nat.le_of_ble_eq_true rfl)) d_M_ends_19 ⟨Nat.le_of_ble_eq_true rfl, Nat.le_of_ble_eq_true rfl⟩)) (fun r3 hw => ?_)
  refine lv_if_eq (tgt := 34) hx hb d_M_ends_22 (by decide) (fun c4 => ?_) (fun c4 => ?_)
  · skip
    have hw := hw.1 c4
    refine lv_iconst (v := (-1)) hx hb d_M_ends_34 (by decide) ?_
    refine lv_istore (lv' := [(5, .int (-1)), (4, .int y2), (0, .ref (h 0)), (1, .int p0), (2, .int p1), (3, .int p2)]) hx hb d_M_ends_35 hl (by decide) rfl (fun ls hl => ?_)
    refine lv_aload_n hx hb d_M_ends_37 rfl (lv_at hl 2 rfl) ?_
    refine lv_iload_n hx hb d_M_ends_38 rfl (lv_at hl 5 rfl) ?_
    have hFc := va_freeA hD hS hA
    refine va_callv (va_runV (As := [.int p2]) (rest := []) ⟨hx, hb, hml, hown, hts⟩ (t_M_curvesOf l dC dI h k _ u1 p2 hw) (cwV 1 hts (gV m_467 m_469 s_19 m_5 (cw_call m_470)) rfl rfl rfl (by decide +kernel) ⟨Nat.le_of_ble_eq_true rfl, Nat.le_of_ble_eq_true rfl⟩) ⟨pRw_bl, va_recv hK hP (ci := 2) (q0 := 0) rfl rfl, fun U hU hW => ⟨rfl, pRw_at hP hK hN hD hU hW⟩⟩ rfl rfl hl.1 rfl (lv_room (Nat.le_of_ble_eq_true rfl)) d_M_ends_39 ⟨Nat.le_of_ble_eq_true rfl, Nat.le_of_ble_eq_true rfl⟩) hS (fun q _ h => hFc q h) hFc (fun u5 t H1 locs ht hvm hw hB hz1 hk1 hS => ?_)
    obtain ⟨hP1, hD1⟩ := hB
    rw [ht] at hP1
    have hP := hP1
    have hD := hD1.weaken (fun _ q _ h => hFc q.1 h)
    generalize H1 = H at hP hS ⊢
    have hP : va_P (dC, dI) vwCl (WM h k u5) H := hP
    have hD : va_D A (WM h k u5) := hD
    refine lv_iload_n hx hb d_M_ends_42 rfl (lv_at hl 4 rfl) ?_
    refine lv_if_ge (tgt := 48) hx hb d_M_ends_43 (by decide) (fun c6 => ?_) (fun c6 => ?_)
    · skip
      have hw := hw.1 c6
      refine lv_iload_n hx hb d_M_ends_48 rfl (lv_at hl 4 rfl) ?_
      refine lv_iload hx hb d_M_ends_49 (lv_at hl 1 rfl) ?_
      refine lv_icmp_lt (tgt := 59) hx hb d_M_ends_51 (by decide) (fun c7 => ?_) (fun c7 => ?_)
      · skip
        have hw := hw.1 c7
        refine lv_aload_n hx hb d_M_ends_59 rfl (lv_at hl 2 rfl) ?_
        refine lv_iload hx hb d_M_ends_60 (lv_at hl 0 rfl) ?_
        have hFc := va_freeA hD hS hA
        refine va_callv (va_runV (As := [.int (-1)]) (rest := []) ⟨hx, hb, hml, hown, hts⟩ (t_M_lineAt l dC dI h k _ u5 ((-1) : Int32) hw) (cwV 1 hts (gV m_480 m_482 s_22 m_5 (cw_call m_483)) rfl rfl rfl (by decide +kernel) ⟨Nat.le_of_ble_eq_true rfl, Nat.le_of_ble_eq_true rfl⟩) ⟨pRw_bl, va_recv hK hP (ci := 2) (q0 := 0) rfl rfl, fun U hU hW => ⟨rfl, pRw_at hP hK hN hD hU hW⟩⟩ rfl rfl hl.1 rfl (lv_room (Nat.le_of_ble_eq_true rfl)) d_M_ends_62 ⟨Nat.le_of_ble_eq_true rfl, Nat.le_of_ble_eq_true rfl⟩) hS (fun q _ h => hFc q h) hFc (fun u8 t H1 locs ht hvm hw hB hz1 hk1 hS => ?_)
        obtain ⟨hP1, hD1⟩ := hB
        rw [ht] at hP1
        have hP := hP1
        have hD := hD1.weaken (fun _ q _ h => hFc q.1 h)
        generalize H1 = H at hP hS ⊢
        have hP : va_P (dC, dI) vwCl (WM h k u8) H := hP
        have hD : va_D A (WM h k u8) := hD
        refine lv_aload_n hx hb d_M_ends_65 rfl (lv_at hl 2 rfl) ?_
        refine vp_callSi (va_Run.run (va_runV (As := []) (rest := []) ⟨hx, hb, hml, hown, hts⟩ (t_M_below l dC dI h k u8  hw) (cwV 0 hts (gV m_484 m_486 s_23 m_5 (cw_call m_487)) rfl rfl rfl (by decide +kernel) ⟨Nat.le_of_ble_eq_true rfl, Nat.le_of_ble_eq_true rfl⟩) ⟨pRo_bl, va_recv hK hP (ci := 2) (q0 := 0) rfl rfl, fun U hU hW => ⟨rfl, pRo_at hP hK hN hU hW⟩⟩ rfl rfl hl.1 rfl (lv_room (Nat.le_of_ble_eq_true rfl)) d_M_ends_66 ⟨Nat.le_of_ble_eq_true rfl, Nat.le_of_ble_eq_true rfl⟩)) (fun r9 hw => ?_)
        exact W.iret (v := r9) hx hb hr (fun t ht hW => ⟨⟨r9, u8, rfl, hw, by rw [ht]; exact hP, hD⟩, hS.F ht⟩) hS.2.2 d_M_ends_69
      · skip
        have hw := hw.2 c7
        refine lv_aload_n hx hb d_M_ends_54 rfl (lv_at hl 2 rfl) ?_
        refine va_get (D := (dC, dI)) (ci := 2) (v := .int (MS.curves u5)) (C := RM) (T := TM) (N := 15) hx hb hts i_M hown hK hP 0 rfl rfl 6 (by decide) (hts _ m_382) (fun _ h9 => h9) rfl d_M_ends_55 ?_
        exact W.iret (v := (MS.curves u5)) hx hb hr (fun t ht hW => ⟨⟨(MS.curves u5), u5, rfl, hw, by rw [ht]; exact hP, hD⟩, hS.F ht⟩) hS.2.2 d_M_ends_58
    · skip
      have hw := hw.2 c6
      refine lv_iconst (v := (-1)) hx hb d_M_ends_46 (by decide) ?_
      exact W.iret (v := (-1)) hx hb hr (fun t ht hW => ⟨⟨(-1), u5, rfl, hw, by rw [ht]; exact hP, hD⟩, hS.F ht⟩) hS.2.2 d_M_ends_47
  · skip
    have hw := hw.2 c4
    refine lv_aload_n hx hb d_M_ends_25 rfl (lv_at hl 1 rfl) ?_
    refine lv_iload_n hx hb d_M_ends_26 rfl (lv_at hl 2 rfl) ?_
    refine lv_iload_n hx hb d_M_ends_27 rfl (lv_at hl 3 rfl) ?_
    have hFc := va_freeA hD hS hA
    refine va_calli (va_runV (As := [.int p0, .int p1]) (rest := []) ⟨hx, hb, hml, hown, hts⟩ (t_M_lineOf l dC dI h k _ u1 p0 p1 hw) (cwV 2 hts (gV m_543 m_545 s_30 m_5 (cw_call m_546)) rfl rfl rfl (by decide +kernel) ⟨Nat.le_of_ble_eq_true rfl, Nat.le_of_ble_eq_true rfl⟩) ⟨pRw_bl, va_recv hK hP (ci := 2) (q0 := 0) rfl rfl, fun U hU hW => ⟨rfl, pRw_at hP hK hN hD hU hW⟩⟩ rfl rfl hl.1 rfl (lv_room (Nat.le_of_ble_eq_true rfl)) d_M_ends_28 ⟨Nat.le_of_ble_eq_true rfl, Nat.le_of_ble_eq_true rfl⟩) hS (fun q _ h => hFc q h) hFc (fun r11 u10 t H1 locs ht hvm hw hB hz1 hk1 hS => ?_)
    obtain ⟨hP1, hD1⟩ := hB
    rw [ht] at hP1
    have hP := hP1
    have hD := hD1.weaken (fun _ q _ h => hFc q.1 h)
    generalize H1 = H at hP hS ⊢
    have hP : va_P (dC, dI) vwCl (WM h k u10) H := hP
    have hD : va_D A (WM h k u10) := hD
    refine lv_goto (tgt := 35) hx hb d_M_ends_31 (by decide) ?_
    refine lv_istore (lv' := [(5, .int r11), (4, .int y2), (0, .ref (h 0)), (1, .int p0), (2, .int p1), (3, .int p2)]) hx hb d_M_ends_35 hl (by decide) rfl (fun ls hl => ?_)
    refine lv_aload_n hx hb d_M_ends_37 rfl (lv_at hl 2 rfl) ?_
    refine lv_iload_n hx hb d_M_ends_38 rfl (lv_at hl 5 rfl) ?_
    have hFc := va_freeA hD hS hA
    refine va_callv (va_runV (As := [.int p2]) (rest := []) ⟨hx, hb, hml, hown, hts⟩ (t_M_curvesOf l dC dI h k _ u10 p2 hw) (cwV 1 hts (gV m_467 m_469 s_19 m_5 (cw_call m_470)) rfl rfl rfl (by decide +kernel) ⟨Nat.le_of_ble_eq_true rfl, Nat.le_of_ble_eq_true rfl⟩) ⟨pRw_bl, va_recv hK hP (ci := 2) (q0 := 0) rfl rfl, fun U hU hW => ⟨rfl, pRw_at hP hK hN hD hU hW⟩⟩ rfl rfl hl.1 rfl (lv_room (Nat.le_of_ble_eq_true rfl)) d_M_ends_39 ⟨Nat.le_of_ble_eq_true rfl, Nat.le_of_ble_eq_true rfl⟩) hS (fun q _ h => hFc q h) hFc (fun u12 t H1 locs ht hvm hw hB hz1 hk1 hS => ?_)
    obtain ⟨hP1, hD1⟩ := hB
    rw [ht] at hP1
    have hP := hP1
    have hD := hD1.weaken (fun _ q _ h => hFc q.1 h)
    generalize H1 = H at hP hS ⊢
    have hP : va_P (dC, dI) vwCl (WM h k u12) H := hP
    have hD : va_D A (WM h k u12) := hD
    refine lv_iload_n hx hb d_M_ends_42 rfl (lv_at hl 4 rfl) ?_
    refine lv_if_ge (tgt := 48) hx hb d_M_ends_43 (by decide) (fun c13 => ?_) (fun c13 => ?_)
    · skip
      have hw := hw.1 c13
      refine lv_iload_n hx hb d_M_ends_48 rfl (lv_at hl 4 rfl) ?_
      refine lv_iload hx hb d_M_ends_49 (lv_at hl 1 rfl) ?_
      refine lv_icmp_lt (tgt := 59) hx hb d_M_ends_51 (by decide) (fun c14 => ?_) (fun c14 => ?_)
      · skip
        have hw := hw.1 c14
        refine lv_aload_n hx hb d_M_ends_59 rfl (lv_at hl 2 rfl) ?_
        refine lv_iload hx hb d_M_ends_60 (lv_at hl 0 rfl) ?_
        have hFc := va_freeA hD hS hA
        refine va_callv (va_runV (As := [.int r11]) (rest := []) ⟨hx, hb, hml, hown, hts⟩ (t_M_lineAt l dC dI h k _ u12 r11 hw) (cwV 1 hts (gV m_480 m_482 s_22 m_5 (cw_call m_483)) rfl rfl rfl (by decide +kernel) ⟨Nat.le_of_ble_eq_true rfl, Nat.le_of_ble_eq_true rfl⟩) ⟨pRw_bl, va_recv hK hP (ci := 2) (q0 := 0) rfl rfl, fun U hU hW => ⟨rfl, pRw_at hP hK hN hD hU hW⟩⟩ rfl rfl hl.1 rfl (lv_room (Nat.le_of_ble_eq_true rfl)) d_M_ends_62 ⟨Nat.le_of_ble_eq_true rfl, Nat.le_of_ble_eq_true rfl⟩) hS (fun q _ h => hFc q h) hFc (fun u15 t H1 locs ht hvm hw hB hz1 hk1 hS => ?_)
        obtain ⟨hP1, hD1⟩ := hB
        rw [ht] at hP1
        have hP := hP1
        have hD := hD1.weaken (fun _ q _ h => hFc q.1 h)
        generalize H1 = H at hP hS ⊢
        have hP : va_P (dC, dI) vwCl (WM h k u15) H := hP
        have hD : va_D A (WM h k u15) := hD
        refine lv_aload_n hx hb d_M_ends_65 rfl (lv_at hl 2 rfl) ?_
        refine vp_callSi (va_Run.run (va_runV (As := []) (rest := []) ⟨hx, hb, hml, hown, hts⟩ (t_M_below l dC dI h k u15  hw) (cwV 0 hts (gV m_484 m_486 s_23 m_5 (cw_call m_487)) rfl rfl rfl (by decide +kernel) ⟨Nat.le_of_ble_eq_true rfl, Nat.le_of_ble_eq_true rfl⟩) ⟨pRo_bl, va_recv hK hP (ci := 2) (q0 := 0) rfl rfl, fun U hU hW => ⟨rfl, pRo_at hP hK hN hU hW⟩⟩ rfl rfl hl.1 rfl (lv_room (Nat.le_of_ble_eq_true rfl)) d_M_ends_66 ⟨Nat.le_of_ble_eq_true rfl, Nat.le_of_ble_eq_true rfl⟩)) (fun r16 hw => ?_)
        exact W.iret (v := r16) hx hb hr (fun t ht hW => ⟨⟨r16, u15, rfl, hw, by rw [ht]; exact hP, hD⟩, hS.F ht⟩) hS.2.2 d_M_ends_69
      · skip
        have hw := hw.2 c14
        refine lv_aload_n hx hb d_M_ends_54 rfl (lv_at hl 2 rfl) ?_
        refine va_get (D := (dC, dI)) (ci := 2) (v := .int (MS.curves u12)) (C := RM) (T := TM) (N := 15) hx hb hts i_M hown hK hP 0 rfl rfl 6 (by decide) (hts _ m_382) (fun _ h9 => h9) rfl d_M_ends_55 ?_
        exact W.iret (v := (MS.curves u12)) hx hb hr (fun t ht hW => ⟨⟨(MS.curves u12), u12, rfl, hw, by rw [ht]; exact hP, hD⟩, hS.F ht⟩) hS.2.2 d_M_ends_58
    · skip
      have hw := hw.2 c13
      refine lv_iconst (v := (-1)) hx hb d_M_ends_46 (by decide) ?_
      exact W.iret (v := (-1)) hx hb hr (fun t ht hW => ⟨⟨(-1), u12, rfl, hw, by rw [ht]; exact hP, hD⟩, hS.F ht⟩) hS.2.2 d_M_ends_47
