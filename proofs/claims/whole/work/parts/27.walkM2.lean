def w_M_signAt (st : MS) (post : Int32 → Prop) (p0 : Int32) : Prop := vp_in (3 * p0) 18 ∧ (vp_in ((3 * p0) + 1) 18 ∧ (vp_in ((3 * p0) + 2) 18 ∧ (∀ y4 : Int64, y4 = (((((((MS.num st) (3 * p0).toNatClampNeg).toInt64) * (MS.xu st)) * (MS.down st)) + (((((MS.num st) ((3 * p0) + 1).toNatClampNeg).toInt64) * (MS.up st)) * (MS.xd st))) + (((((MS.num st) ((3 * p0) + 2).toNatClampNeg).toInt64) * (MS.xd st)) * (MS.down st))) → ((y4 ≤ 0 → ((0 ≤ y4 → (post 0)) ∧ (¬ 0 ≤ y4 → (post (-1))))) ∧ (¬ y4 ≤ 0 → (post 1))))))
set_option maxHeartbeats 4000000 in
set_option maxRecDepth 100000 in
theorem t_M_signAt (l : Launch) (dC : Nat → ClassId) (dI : Nat → Nat → Nat) (h : Nat → Nat) (k : Nat → ClassId) (st : MS) (p0 : Int32) {post : Int32 → Prop} (hw : w_M_signAt st post p0) : Met l y_M_signAt (Cond.code y_M_signAt prog_4_method_25_code 4 (some .int) :: cw) ({ frames := 0, cells := 0, slots := 0, locals := 0 } : Room) (va_Pc [.ref (h 0), .int p0] (pRo (dC, dI) (WM h k st) (YM k))) (vp_Si post) 0 0 (fun _ => False) := by
  refine Met.ofW (cc := prog_4_method_25_code) (maxL := 4) (ret := (some .int)) (by decide) rfl ?_
  intro p e s m args below meth c s₁ B hml hv
  obtain ⟨rfl, hP, hK, hN⟩ := hv
  have hx := B.exec
  have hb := B.bytes
  have hr := B.returns
  have hts : ∀ w ∈ cw, w.before _ s = true := fun w h => atoms_spec (ws := (Cond.code y_M_signAt prog_4_method_25_code 4 (some .int) :: cw)) B.pre w (List.mem_cons_of_mem _ h)
  have hown : s.vm.findClass RM = some m.cls := findClass_of_methodNamed B.named
  have hlocks := B.notSynchronized
  have C0 : cxt p s m _ meth c prog_4_method_25_code 4 RM (some .int) := ⟨hx, hb, hr, hml, hown, hts, hlocks⟩
  have hl := lv_entry ([.ref (h 0), .int p0]) (n := 4) (Nat.le_of_ble_eq_true rfl)
  rw [lg_entry_eq]
  generalize (lg_sl ([.ref (h 0), .int p0]) ++ List.replicate (4 - (lg_sl ([.ref (h 0), .int p0])).length) Slot.unset).toArray = ls at hl ⊢
  have hl : lv_has ls 4 [(0, .ref (h 0)), (1, .int p0)] := hl
  unfold w_M_signAt at hw
  refine lv_aload_n hx hb d_M_signAt_0 rfl (lv_at hl 0 rfl) ?_
  refine va_get (D := (dC, dI)) (ci := 2) (v := .ref (h 1)) (C := RM) (T := TM) (N := 15) hx hb hts i_M hown hK hP 0 rfl rfl 2 (by decide) (hts _ m_378) (fun _ h9 => h9) rfl d_M_signAt_1 ?_
  refine lv_iconst (v := 3) hx hb d_M_signAt_4 (by decide) ?_
  refine lv_iload_n hx hb d_M_signAt_5 rfl (lv_at hl 1 rfl) ?_
  refine lv_imul hx hb d_M_signAt_6 ?_
  obtain ⟨h1, hw⟩ := hw
  refine va_iald hx hb hK hP 1 0 rfl rfl h1 d_M_signAt_7 ?_
  refine lv_i2l (v := ((MS.num st) (3 * p0).toNatClampNeg).toInt64) hx hb d_M_signAt_8 rfl ?_
  refine lv_aload_n hx hb d_M_signAt_9 rfl (lv_at hl 0 rfl) ?_
  refine va_get (D := (dC, dI)) (ci := 2) (v := .long (MS.xu st)) (C := RM) (T := TM) (N := 15) hx hb hts i_M hown hK hP 0 rfl rfl 11 (by decide) (hts _ m_387) (fun _ h9 => h9) rfl d_M_signAt_10 ?_
  refine lv_lmul hx hb d_M_signAt_13 ?_
  refine lv_aload_n hx hb d_M_signAt_14 rfl (lv_at hl 0 rfl) ?_
  refine va_get (D := (dC, dI)) (ci := 2) (v := .long (MS.down st)) (C := RM) (T := TM) (N := 15) hx hb hts i_M hown hK hP 0 rfl rfl 10 (by decide) (hts _ m_386) (fun _ h9 => h9) rfl d_M_signAt_15 ?_
  refine lv_lmul hx hb d_M_signAt_18 ?_
  refine lv_aload_n hx hb d_M_signAt_19 rfl (lv_at hl 0 rfl) ?_
  refine va_get (D := (dC, dI)) (ci := 2) (v := .ref (h 1)) (C := RM) (T := TM) (N := 15) hx hb hts i_M hown hK hP 0 rfl rfl 2 (by decide) (hts _ m_378) (fun _ h9 => h9) rfl d_M_signAt_20 ?_
  refine lv_iconst (v := 3) hx hb d_M_signAt_23 (by decide) ?_
  refine lv_iload_n hx hb d_M_signAt_24 rfl (lv_at hl 1 rfl) ?_
  refine lv_imul hx hb d_M_signAt_25 ?_
  refine lv_iconst (v := 1) hx hb d_M_signAt_26 (by decide) ?_
  refine lv_iadd hx hb d_M_signAt_27 ?_
  obtain ⟨h2, hw⟩ := hw
  refine va_iald hx hb hK hP 1 0 rfl rfl h2 d_M_signAt_28 ?_
  refine lv_i2l (v := ((MS.num st) ((3 * p0) + 1).toNatClampNeg).toInt64) hx hb d_M_signAt_29 rfl ?_
  refine lv_aload_n hx hb d_M_signAt_30 rfl (lv_at hl 0 rfl) ?_
  refine va_get (D := (dC, dI)) (ci := 2) (v := .long (MS.up st)) (C := RM) (T := TM) (N := 15) hx hb hts i_M hown hK hP 0 rfl rfl 9 (by decide) (hts _ m_385) (fun _ h9 => h9) rfl d_M_signAt_31 ?_
  refine lv_lmul hx hb d_M_signAt_34 ?_
  refine lv_aload_n hx hb d_M_signAt_35 rfl (lv_at hl 0 rfl) ?_
  refine va_get (D := (dC, dI)) (ci := 2) (v := .long (MS.xd st)) (C := RM) (T := TM) (N := 15) hx hb hts i_M hown hK hP 0 rfl rfl 12 (by decide) (hts _ m_388) (fun _ h9 => h9) rfl d_M_signAt_36 ?_
  refine lv_lmul hx hb d_M_signAt_39 ?_
  refine lv_ladd hx hb d_M_signAt_40 ?_
  refine lv_aload_n hx hb d_M_signAt_41 rfl (lv_at hl 0 rfl) ?_
  refine va_get (D := (dC, dI)) (ci := 2) (v := .ref (h 1)) (C := RM) (T := TM) (N := 15) hx hb hts i_M hown hK hP 0 rfl rfl 2 (by decide) (hts _ m_378) (fun _ h9 => h9) rfl d_M_signAt_42 ?_
  refine lv_iconst (v := 3) hx hb d_M_signAt_45 (by decide) ?_
  refine lv_iload_n hx hb d_M_signAt_46 rfl (lv_at hl 1 rfl) ?_
  refine lv_imul hx hb d_M_signAt_47 ?_
  refine lv_iconst (v := 2) hx hb d_M_signAt_48 (by decide) ?_
  refine lv_iadd hx hb d_M_signAt_49 ?_
  obtain ⟨h3, hw⟩ := hw
  refine va_iald hx hb hK hP 1 0 rfl rfl h3 d_M_signAt_50 ?_
  refine lv_i2l (v := ((MS.num st) ((3 * p0) + 2).toNatClampNeg).toInt64) hx hb d_M_signAt_51 rfl ?_
  refine lv_aload_n hx hb d_M_signAt_52 rfl (lv_at hl 0 rfl) ?_
  refine va_get (D := (dC, dI)) (ci := 2) (v := .long (MS.xd st)) (C := RM) (T := TM) (N := 15) hx hb hts i_M hown hK hP 0 rfl rfl 12 (by decide) (hts _ m_388) (fun _ h9 => h9) rfl d_M_signAt_53 ?_
  refine lv_lmul hx hb d_M_signAt_56 ?_
  refine lv_aload_n hx hb d_M_signAt_57 rfl (lv_at hl 0 rfl) ?_
  refine va_get (D := (dC, dI)) (ci := 2) (v := .long (MS.down st)) (C := RM) (T := TM) (N := 15) hx hb hts i_M hown hK hP 0 rfl rfl 10 (by decide) (hts _ m_386) (fun _ h9 => h9) rfl d_M_signAt_58 ?_
  refine lv_lmul hx hb d_M_signAt_61 ?_
  refine lv_ladd hx hb d_M_signAt_62 ?_
  refine lv_topl (fun y4 ey4 => ?_)
  have hw := hw y4 ey4
  refine lv_lstore_n (lv' := [(2, .long y4), (0, .ref (h 0)), (1, .int p0)]) hx hb d_M_signAt_63 rfl hl (by decide) rfl (fun ls hl => ?_)
  refine lv_lload_n hx hb d_M_signAt_64 rfl (lv_at hl 0 rfl) ?_
  refine lv_lconst (v := 0) hx hb d_M_signAt_65 (by decide) ?_
  refine W.lcmp hx hb d_M_signAt_66 ?_
  refine lv_if_le (tgt := 74) hx hb d_M_signAt_67 (by decide) (fun c5 => ?_) (fun c5 => ?_)
  · have c5 : y4 ≤ 0 := (lgc_le.mp c5)
    have hw := hw.1 c5
    refine lv_lload_n hx hb d_M_signAt_74 rfl (lv_at hl 0 rfl) ?_
    refine lv_lconst (v := 0) hx hb d_M_signAt_75 (by decide) ?_
    refine W.lcmp hx hb d_M_signAt_76 ?_
    refine lv_if_ge (tgt := 84) hx hb d_M_signAt_77 (by decide) (fun c6 => ?_) (fun c6 => ?_)
    · have c6 : 0 ≤ y4 := (lgc_ge.mp c6)
      have hw := hw.1 c6
      refine lv_iconst (v := 0) hx hb d_M_signAt_84 (by decide) ?_
      exact W.iret (v := 0) hx hb hr (fun t ht hW => ⟨0, rfl, hw, ht⟩) (fun _ h => by cases h) d_M_signAt_85
    · have c6 : ¬ 0 ≤ y4 := (fun q => c6 (lgc_ge.mpr q))
      have hw := hw.2 c6
      refine lv_iconst (v := (-1)) hx hb d_M_signAt_80 (by decide) ?_
      refine lv_goto (tgt := 85) hx hb d_M_signAt_81 (by decide) ?_
      exact W.iret (v := (-1)) hx hb hr (fun t ht hW => ⟨(-1), rfl, hw, ht⟩) (fun _ h => by cases h) d_M_signAt_85
  · have c5 : ¬ y4 ≤ 0 := (fun q => c5 (lgc_le.mpr q))
    have hw := hw.2 c5
    refine lv_iconst (v := 1) hx hb d_M_signAt_70 (by decide) ?_
    refine lv_goto (tgt := 85) hx hb d_M_signAt_71 (by decide) ?_
    exact W.iret (v := 1) hx hb hr (fun t ht hW => ⟨1, rfl, hw, ht⟩) (fun _ h => by cases h) d_M_signAt_85
def w_M_isSo_2 (st : MS) (post : Int32 → Prop) : Nat → Int32 → Int32 → Prop
  | 0, _, _ => False
  | n + 1, v1, v2 => ((MS.lines st) ≤ v2 → (post 1)) ∧ (¬ (MS.lines st) ≤ v2 → (∀ y3 : Int32, y3 = ((v1 >>> ((2 * v2) &&& 31)) &&& 3) → ((¬ y3 = 0 → (w_M_signAt st (fun r5 => ((¬ y3 = 1 → ((¬ y3 = 2 → ((r5 = 0 → (w_M_isSo_2 st post n v1 (v2 + 1))) ∧ (¬ r5 = 0 → (post 0)))) ∧ (y3 = 2 → ((r5 = (-1) → (w_M_isSo_2 st post n v1 (v2 + 1))) ∧ (¬ r5 = (-1) → (post 0)))))) ∧ (y3 = 1 → ((r5 = 1 → (w_M_isSo_2 st post n v1 (v2 + 1))) ∧ (¬ r5 = 1 → (post 0)))))) v2)) ∧ (y3 = 0 → (w_M_isSo_2 st post n v1 (v2 + 1))))))
set_option maxHeartbeats 4000000 in
set_option maxRecDepth 100000 in
theorem k_M_isSo_2 {p : Program} {l : Launch} {e : Env} {s : State} {m : MethodId} {args : Array Value} {below : List Frame} {meth : Method} {c : Code} {dC : Nat → ClassId} {dI : Nat → Nat → Nat} {h : Nat → Nat} {k : Nat → ClassId} {st : MS} {post : Int32 → Prop} (C0 : cxt p s m args meth c prog_4_method_29_code 4 RM (some .boolean)) (hK : va_K (dC, dI) vwCl (YM k) s) (hN : va_Nw nestW s) (hP : va_P (dC, dI) vwCl (WM h k st) s.heap) : ∀ (n : Nat), ∀ (v1 : Int32) (v2 : Int32), ∀ ls, lv_has ls 4 [(0, .ref (h 0)), (1, .int v1), (2, .int v2)] → w_M_isSo_2 st post n v1 v2 → W p l e ({ frames := 1, cells := 0, slots := 0, locals := 23 } : Room) s m args below meth c s.heap [] 0 0 (MQ below (vp_Si post) args s 0 0 (fun _ => False)) (F0 m 2 ls []) := by
  obtain ⟨hx, hb, hr, hml, hown, hts, hlocks⟩ := id C0
  intro n
  induction n with
  | zero =>
    intro v1 v2 ls hl hw
    exact False.elim hw
  | succ n ih =>
    intro v1 v2 ls hl hw
    rw [w_M_isSo_2] at hw
    refine lv_iload_n hx hb d_M_isSo_2 rfl (lv_at hl 2 rfl) ?_
    refine lv_aload_n hx hb d_M_isSo_3 rfl (lv_at hl 0 rfl) ?_
    refine va_get (D := (dC, dI)) (ci := 2) (v := .int (MS.lines st)) (C := RM) (T := TM) (N := 15) hx hb hts i_M hown hK hP 0 rfl rfl 1 (by decide) (hts _ m_377) (fun _ h9 => h9) rfl d_M_isSo_4 ?_
    refine lv_icmp_ge (tgt := 60) hx hb d_M_isSo_7 (by decide) (fun c2 => ?_) (fun c2 => ?_)
    · skip
      have hw := hw.1 c2
      refine lv_iconst (v := 1) hx hb d_M_isSo_60 (by decide) ?_
      exact W.zret (v := 1) hx hb hr rfl (fun t ht hW => ⟨1, rfl, hw, ht⟩) (fun _ h => by cases h) d_M_isSo_61
    · skip
      have hw := hw.2 c2
      refine lv_iload_n hx hb d_M_isSo_10 rfl (lv_at hl 1 rfl) ?_
      refine lv_iconst (v := 2) hx hb d_M_isSo_11 (by decide) ?_
      refine lv_iload_n hx hb d_M_isSo_12 rfl (lv_at hl 2 rfl) ?_
      refine lv_imul hx hb d_M_isSo_13 ?_
      refine lv_ishr hx hb d_M_isSo_14 ?_
      refine lv_iconst (v := 3) hx hb d_M_isSo_15 (by decide) ?_
      refine lv_iand hx hb d_M_isSo_16 ?_
      refine lv_topi (fun y3 ey3 => ?_)
      have hw := hw y3 ey3
      refine lv_istore_n (lv' := [(3, .int y3), (0, .ref (h 0)), (1, .int v1), (2, .int v2)]) hx hb d_M_isSo_17 rfl hl (by decide) rfl (fun ls hl => ?_)
      refine lv_iload_n hx hb d_M_isSo_18 rfl (lv_at hl 0 rfl) ?_
      refine lv_if_ne (tgt := 25) hx hb d_M_isSo_19 (by decide) (fun c4 => ?_) (fun c4 => ?_)
      · skip
        have hw := hw.1 c4
        refine lv_aload_n hx hb d_M_isSo_25 rfl (lv_at hl 1 rfl) ?_
        refine lv_iload_n hx hb d_M_isSo_26 rfl (lv_at hl 3 rfl) ?_
        refine vp_callSi (va_Run.run (va_runV (As := [.int v2]) (rest := []) ⟨hx, hb, hml, hown, hts⟩ (t_M_signAt l dC dI h k st v2 hw) (cwV 1 hts (gV m_516 m_518 s_27 m_5 (cw_call m_519)) rfl rfl rfl (by decide +kernel) ⟨Nat.le_of_ble_eq_true rfl, Nat.le_of_ble_eq_true rfl⟩) ⟨pRo_bl, va_recv hK hP (ci := 2) (q0 := 0) rfl rfl, fun U hU hW => ⟨rfl, pRo_at hP hK hN hU hW⟩⟩ rfl rfl hl.1 rfl (lv_room (Nat.le_of_ble_eq_true rfl)) d_M_isSo_27 ⟨Nat.le_of_ble_eq_true rfl, Nat.le_of_ble_eq_true rfl⟩)) (fun r5 hw => ?_)
        refine lv_iload_n hx hb d_M_isSo_30 rfl (lv_at hl 0 rfl) ?_
        refine lv_iconst (v := 1) hx hb d_M_isSo_31 (by decide) ?_
        refine lv_icmp_ne (tgt := 39) hx hb d_M_isSo_32 (by decide) (fun c6 => ?_) (fun c6 => ?_)
        · skip
          have hw := hw.1 c6
          refine lv_iload_n hx hb d_M_isSo_39 rfl (lv_at hl 0 rfl) ?_
          refine lv_iconst (v := 2) hx hb d_M_isSo_40 (by decide) ?_
          refine lv_icmp_ne (tgt := 48) hx hb d_M_isSo_41 (by decide) (fun c7 => ?_) (fun c7 => ?_)
          · skip
            have hw := hw.1 c7
            refine lv_iconst (v := 0) hx hb d_M_isSo_48 (by decide) ?_
            refine lv_icmp_eq (tgt := 54) hx hb d_M_isSo_49 (by decide) (fun c8 => ?_) (fun c8 => ?_)
            · skip
              have hw := hw.1 c8
              refine lv_iinc (v := (v2 + 1)) (lv' := [(2, .int (v2 + 1)), (3, .int y3), (0, .ref (h 0)), (1, .int v1)]) hx hb d_M_isSo_54 hl (k := 3) rfl rfl (by decide) rfl (fun ls hl => ?_)
              refine lv_goto (tgt := 2) hx hb d_M_isSo_57 (by decide) ?_
              exact ih v1 (v2 + 1) ls (lv_sub hl [2, 3, 0] rfl) hw
            · skip
              have hw := hw.2 c8
              refine lv_iconst (v := 0) hx hb d_M_isSo_52 (by decide) ?_
              exact W.zret (v := 0) hx hb hr rfl (fun t ht hW => ⟨0, rfl, hw, ht⟩) (fun _ h => by cases h) d_M_isSo_53
          · skip
            have hw := hw.2 c7
            refine lv_iconst (v := (-1)) hx hb d_M_isSo_44 (by decide) ?_
            refine lv_goto (tgt := 49) hx hb d_M_isSo_45 (by decide) ?_
            refine lv_icmp_eq (tgt := 54) hx hb d_M_isSo_49 (by decide) (fun c9 => ?_) (fun c9 => ?_)
            · skip
              have hw := hw.1 c9
              refine lv_iinc (v := (v2 + 1)) (lv' := [(2, .int (v2 + 1)), (3, .int y3), (0, .ref (h 0)), (1, .int v1)]) hx hb d_M_isSo_54 hl (k := 3) rfl rfl (by decide) rfl (fun ls hl => ?_)
              refine lv_goto (tgt := 2) hx hb d_M_isSo_57 (by decide) ?_
              exact ih v1 (v2 + 1) ls (lv_sub hl [2, 3, 0] rfl) hw
            · skip
              have hw := hw.2 c9
              refine lv_iconst (v := 0) hx hb d_M_isSo_52 (by decide) ?_
              exact W.zret (v := 0) hx hb hr rfl (fun t ht hW => ⟨0, rfl, hw, ht⟩) (fun _ h => by cases h) d_M_isSo_53
        · skip
          have hw := hw.2 c6
          refine lv_iconst (v := 1) hx hb d_M_isSo_35 (by decide) ?_
          refine lv_goto (tgt := 49) hx hb d_M_isSo_36 (by decide) ?_
          refine lv_icmp_eq (tgt := 54) hx hb d_M_isSo_49 (by decide) (fun c10 => ?_) (fun c10 => ?_)
          · skip
            have hw := hw.1 c10
            refine lv_iinc (v := (v2 + 1)) (lv' := [(2, .int (v2 + 1)), (3, .int y3), (0, .ref (h 0)), (1, .int v1)]) hx hb d_M_isSo_54 hl (k := 3) rfl rfl (by decide) rfl (fun ls hl => ?_)
            refine lv_goto (tgt := 2) hx hb d_M_isSo_57 (by decide) ?_
            exact ih v1 (v2 + 1) ls (lv_sub hl [2, 3, 0] rfl) hw
          · skip
            have hw := hw.2 c10
            refine lv_iconst (v := 0) hx hb d_M_isSo_52 (by decide) ?_
            exact W.zret (v := 0) hx hb hr rfl (fun t ht hW => ⟨0, rfl, hw, ht⟩) (fun _ h => by cases h) d_M_isSo_53
      · skip
        have hw := hw.2 c4
        refine lv_goto (tgt := 54) hx hb d_M_isSo_22 (by decide) ?_
        refine lv_iinc (v := (v2 + 1)) (lv' := [(2, .int (v2 + 1)), (3, .int y3), (0, .ref (h 0)), (1, .int v1)]) hx hb d_M_isSo_54 hl (k := 3) rfl rfl (by decide) rfl (fun ls hl => ?_)
        refine lv_goto (tgt := 2) hx hb d_M_isSo_57 (by decide) ?_
        exact ih v1 (v2 + 1) ls (lv_sub hl [2, 3, 0] rfl) hw
def w_M_isSo (st : MS) (post : Int32 → Prop) (p0 : Int32) : Prop := ∃ z, w_M_isSo_2 st post z p0 0
set_option maxHeartbeats 4000000 in
set_option maxRecDepth 100000 in
theorem t_M_isSo (l : Launch) (dC : Nat → ClassId) (dI : Nat → Nat → Nat) (h : Nat → Nat) (k : Nat → ClassId) (st : MS) (p0 : Int32) {post : Int32 → Prop} (hw : w_M_isSo st post p0) : Met l y_M_isSo (Cond.code y_M_isSo prog_4_method_29_code 4 (some .boolean) :: cw) ({ frames := 1, cells := 0, slots := 0, locals := 23 } : Room) (va_Pc [.ref (h 0), .int p0] (pRo (dC, dI) (WM h k st) (YM k))) (vp_Si post) 0 0 (fun _ => False) := by
  refine Met.ofW (cc := prog_4_method_29_code) (maxL := 4) (ret := (some .boolean)) (by decide) rfl ?_
  intro p e s m args below meth c s₁ B hml hv
  obtain ⟨rfl, hP, hK, hN⟩ := hv
  have hx := B.exec
  have hb := B.bytes
  have hr := B.returns
  have hts : ∀ w ∈ cw, w.before _ s = true := fun w h => atoms_spec (ws := (Cond.code y_M_isSo prog_4_method_29_code 4 (some .boolean) :: cw)) B.pre w (List.mem_cons_of_mem _ h)
  have hown : s.vm.findClass RM = some m.cls := findClass_of_methodNamed B.named
  have hlocks := B.notSynchronized
  have C0 : cxt p s m _ meth c prog_4_method_29_code 4 RM (some .boolean) := ⟨hx, hb, hr, hml, hown, hts, hlocks⟩
  have hl := lv_entry ([.ref (h 0), .int p0]) (n := 4) (Nat.le_of_ble_eq_true rfl)
  rw [lg_entry_eq]
  generalize (lg_sl ([.ref (h 0), .int p0]) ++ List.replicate (4 - (lg_sl ([.ref (h 0), .int p0])).length) Slot.unset).toArray = ls at hl ⊢
  have hl : lv_has ls 4 [(0, .ref (h 0)), (1, .int p0)] := hl
  unfold w_M_isSo at hw
  refine lv_iconst (v := 0) hx hb d_M_isSo_0 (by decide) ?_
  refine lv_istore_n (lv' := [(2, .int 0), (0, .ref (h 0)), (1, .int p0)]) hx hb d_M_isSo_1 rfl hl (by decide) rfl (fun ls hl => ?_)
  obtain ⟨n1, hw⟩ := hw
  exact k_M_isSo_2 C0 hK hN hP n1 p0 0 ls (lv_sub hl [1, 2, 0] rfl) hw
def w_M_keepCut_84 (post : MS → Prop) : Nat → MS → Int32 → Int32 → Prop
  | 0, _, _, _ => False
  | n + 1, st, v1, v2 => (v2 ≤ v1 → (vp_in v1 24 ∧ (post ((MS.code st), (MS.lines st), (MS.num st), ((MS.cuts st) + 1), (vp_updL (MS.cu st) v1.toNatClampNeg (MS.up st)), (vp_updL (MS.cd st) v1.toNatClampNeg (MS.down st)), (MS.curves st), (MS.yu st), (MS.yd st), (MS.up st), (MS.down st), (MS.xu st), (MS.xd st), (MS.strip st), (MS.place st))))) ∧ (¬ v2 ≤ v1 → (vp_in (v2 - 1) 24 ∧ (vp_in v2 24 ∧ (w_M_keepCut_84 post n ((MS.code st), (MS.lines st), (MS.num st), (MS.cuts st), (vp_updL (MS.cu st) v2.toNatClampNeg ((MS.cu st) (v2 - 1).toNatClampNeg)), (vp_updL (MS.cd st) v2.toNatClampNeg ((MS.cd st) (v2 - 1).toNatClampNeg)), (MS.curves st), (MS.yu st), (MS.yd st), (MS.up st), (MS.down st), (MS.xu st), (MS.xd st), (MS.strip st), (MS.place st)) v1 (v2 + (-1))))))
set_option maxHeartbeats 4000000 in
set_option maxRecDepth 100000 in
theorem k_M_keepCut_84 {p : Program} {l : Launch} {e : Env} {s : State} {m : MethodId} {args : Array Value} {below : List Frame} {meth : Method} {c : Code} {dC : Nat → ClassId} {dI : Nat → Nat → Nat} {h : Nat → Nat} {k : Nat → ClassId} {A : Nat → Prop} {post : MS → Prop} (C0 : cxt p s m args meth c prog_4_method_10_code 3 RM none) (hK : va_K (dC, dI) vwCl (YM k) s) (hN : va_Nw nestW s) (hA : ∀ q, s.heap.size ≤ q → A q) : ∀ (n : Nat), ∀ (st : MS) (v1 : Int32) (v2 : Int32) (H : Heap) (locs : List Loc), va_P (dC, dI) vwCl (WM h k st) H → va_D A (WM h k st) → va_S A s.heap H locs → ∀ ls, lv_has ls 3 [(0, .ref (h 0)), (1, .int v1), (2, .int v2)] → w_M_keepCut_84 post n st v1 v2 → W p l e ({ frames := 0, cells := 0, slots := 0, locals := 0 } : Room) s m args below meth c H locs 0 0 (MQ below (va_Qv post (fun u t => va_P (dC, dI) vwCl (WM h k u) t.heap ∧ va_D A (WM h k u)) A) args s 0 0 A) (F0 m 84 ls []) := by
  obtain ⟨hx, hb, hr, hml, hown, hts, hlocks⟩ := id C0
  intro n
  induction n with
  | zero =>
    intro st v1 v2 H locs hP hD hS ls hl hw
    exact False.elim hw
  | succ n ih =>
    intro st v1 v2 H locs hP hD hS ls hl hw
    rw [w_M_keepCut_84] at hw
    refine lv_iload_n hx hb d_M_keepCut_84 rfl (lv_at hl 2 rfl) ?_
    refine lv_iload_n hx hb d_M_keepCut_85 rfl (lv_at hl 1 rfl) ?_
    refine lv_icmp_le (tgt := 123) hx hb d_M_keepCut_86 (by decide) (fun c13 => ?_) (fun c13 => ?_)
    · skip
      have hw := hw.1 c13
      refine lv_aload_n hx hb d_M_keepCut_123 rfl (lv_at hl 0 rfl) ?_
      refine va_get (D := (dC, dI)) (ci := 2) (v := .ref (h 2)) (C := RM) (T := TM) (N := 15) hx hb hts i_M hown hK hP 0 rfl rfl 4 (by decide) (hts _ m_380) (fun _ h9 => h9) rfl d_M_keepCut_124 ?_
      refine lv_iload_n hx hb d_M_keepCut_127 rfl (lv_at hl 1 rfl) ?_
      refine lv_aload_n hx hb d_M_keepCut_128 rfl (lv_at hl 0 rfl) ?_
      refine va_get (D := (dC, dI)) (ci := 2) (v := .long (MS.up st)) (C := RM) (T := TM) (N := 15) hx hb hts i_M hown hK hP 0 rfl rfl 9 (by decide) (hts _ m_385) (fun _ h9 => h9) rfl d_M_keepCut_129 ?_
      obtain ⟨h14, hw⟩ := hw
      refine va_last hx hb hK hP hD hS 2 1 rfl rfl h14 d_M_keepCut_132 (fun H locs hP hD hS => ?_)
      have hP : va_P (dC, dI) vwCl [(h 0, .inr (2, [.int (MS.code st), .int (MS.lines st), .ref (h 1), .int (MS.cuts st), .ref (h 2), .ref (h 3), .int (MS.curves st), .ref (h 4), .ref (h 5), .long (MS.up st), .long (MS.down st), .long (MS.xu st), .long (MS.xd st), .int (MS.strip st), .int (MS.place st)])), (h 1, .inl (k 1, 18, .inl (MS.num st))), (h 2, .inl (k 2, 24, .inr (.inl (vp_updL (MS.cu st) v1.toNatClampNeg (MS.up st))))), (h 3, .inl (k 3, 24, .inr (.inl (MS.cd st)))), (h 4, .inl (k 4, 6, .inr (.inl (MS.yu st)))), (h 5, .inl (k 5, 6, .inr (.inl (MS.yd st))))] H := hP
      have hD : va_D A [(h 0, .inr (2, [.int (MS.code st), .int (MS.lines st), .ref (h 1), .int (MS.cuts st), .ref (h 2), .ref (h 3), .int (MS.curves st), .ref (h 4), .ref (h 5), .long (MS.up st), .long (MS.down st), .long (MS.xu st), .long (MS.xd st), .int (MS.strip st), .int (MS.place st)])), (h 1, .inl (k 1, 18, .inl (MS.num st))), (h 2, .inl (k 2, 24, .inr (.inl (vp_updL (MS.cu st) v1.toNatClampNeg (MS.up st))))), (h 3, .inl (k 3, 24, .inr (.inl (MS.cd st)))), (h 4, .inl (k 4, 6, .inr (.inl (MS.yu st)))), (h 5, .inl (k 5, 6, .inr (.inl (MS.yd st))))] := hD
      refine lv_aload_n hx hb d_M_keepCut_133 rfl (lv_at hl 0 rfl) ?_
      refine va_get (D := (dC, dI)) (ci := 2) (v := .ref (h 3)) (C := RM) (T := TM) (N := 15) hx hb hts i_M hown hK hP 0 rfl rfl 5 (by decide) (hts _ m_381) (fun _ h9 => h9) rfl d_M_keepCut_134 ?_
      refine lv_iload_n hx hb d_M_keepCut_137 rfl (lv_at hl 1 rfl) ?_
      refine lv_aload_n hx hb d_M_keepCut_138 rfl (lv_at hl 0 rfl) ?_
      refine va_get (D := (dC, dI)) (ci := 2) (v := .long (MS.down st)) (C := RM) (T := TM) (N := 15) hx hb hts i_M hown hK hP 0 rfl rfl 10 (by decide) (hts _ m_386) (fun _ h9 => h9) rfl d_M_keepCut_139 ?_
      refine va_last hx hb hK hP hD hS 3 2 rfl rfl h14 d_M_keepCut_142 (fun H locs hP hD hS => ?_)
      have hP : va_P (dC, dI) vwCl [(h 0, .inr (2, [.int (MS.code st), .int (MS.lines st), .ref (h 1), .int (MS.cuts st), .ref (h 2), .ref (h 3), .int (MS.curves st), .ref (h 4), .ref (h 5), .long (MS.up st), .long (MS.down st), .long (MS.xu st), .long (MS.xd st), .int (MS.strip st), .int (MS.place st)])), (h 1, .inl (k 1, 18, .inl (MS.num st))), (h 2, .inl (k 2, 24, .inr (.inl (vp_updL (MS.cu st) v1.toNatClampNeg (MS.up st))))), (h 3, .inl (k 3, 24, .inr (.inl (vp_updL (MS.cd st) v1.toNatClampNeg (MS.down st))))), (h 4, .inl (k 4, 6, .inr (.inl (MS.yu st)))), (h 5, .inl (k 5, 6, .inr (.inl (MS.yd st))))] H := hP
      have hD : va_D A [(h 0, .inr (2, [.int (MS.code st), .int (MS.lines st), .ref (h 1), .int (MS.cuts st), .ref (h 2), .ref (h 3), .int (MS.curves st), .ref (h 4), .ref (h 5), .long (MS.up st), .long (MS.down st), .long (MS.xu st), .long (MS.xd st), .int (MS.strip st), .int (MS.place st)])), (h 1, .inl (k 1, 18, .inl (MS.num st))), (h 2, .inl (k 2, 24, .inr (.inl (vp_updL (MS.cu st) v1.toNatClampNeg (MS.up st))))), (h 3, .inl (k 3, 24, .inr (.inl (vp_updL (MS.cd st) v1.toNatClampNeg (MS.down st))))), (h 4, .inl (k 4, 6, .inr (.inl (MS.yu st)))), (h 5, .inl (k 5, 6, .inr (.inl (MS.yd st))))] := hD
      refine lv_aload_n hx hb d_M_keepCut_143 rfl (lv_at hl 0 rfl) ?_
      refine lv_dup hx hb d_M_keepCut_144 rfl ?_
      refine va_get (D := (dC, dI)) (ci := 2) (v := .int (MS.cuts st)) (C := RM) (T := TM) (N := 15) hx hb hts i_M hown hK hP 0 rfl rfl 3 (by decide) (hts _ m_379) (fun _ h9 => h9) rfl d_M_keepCut_145 ?_
      refine lv_iconst (v := 1) hx hb d_M_keepCut_148 (by decide) ?_
      refine lv_iadd hx hb d_M_keepCut_149 ?_
      refine va_put (D := (dC, dI)) (ci := 2) (v := .int ((MS.cuts st) + 1)) (ty := .int) (C := RM) (T := TM) (N := 15) hx hb hts i_M tyM tyM_ok nmM hown hK hP hD hS 0 rfl rfl 3 (by decide) (hts _ m_379) (fun _ h9 => h9) rfl (by decide +kernel) rfl rfl (Nat.le_of_ble_eq_true rfl) d_M_keepCut_150 (fun H locs hP hD hS => ?_)
      have hP : va_P (dC, dI) vwCl [(h 0, .inr (2, [.int (MS.code st), .int (MS.lines st), .ref (h 1), .int ((MS.cuts st) + 1), .ref (h 2), .ref (h 3), .int (MS.curves st), .ref (h 4), .ref (h 5), .long (MS.up st), .long (MS.down st), .long (MS.xu st), .long (MS.xd st), .int (MS.strip st), .int (MS.place st)])), (h 1, .inl (k 1, 18, .inl (MS.num st))), (h 2, .inl (k 2, 24, .inr (.inl (vp_updL (MS.cu st) v1.toNatClampNeg (MS.up st))))), (h 3, .inl (k 3, 24, .inr (.inl (vp_updL (MS.cd st) v1.toNatClampNeg (MS.down st))))), (h 4, .inl (k 4, 6, .inr (.inl (MS.yu st)))), (h 5, .inl (k 5, 6, .inr (.inl (MS.yd st))))] H := hP
      have hD : va_D A [(h 0, .inr (2, [.int (MS.code st), .int (MS.lines st), .ref (h 1), .int ((MS.cuts st) + 1), .ref (h 2), .ref (h 3), .int (MS.curves st), .ref (h 4), .ref (h 5), .long (MS.up st), .long (MS.down st), .long (MS.xu st), .long (MS.xd st), .int (MS.strip st), .int (MS.place st)])), (h 1, .inl (k 1, 18, .inl (MS.num st))), (h 2, .inl (k 2, 24, .inr (.inl (vp_updL (MS.cu st) v1.toNatClampNeg (MS.up st))))), (h 3, .inl (k 3, 24, .inr (.inl (vp_updL (MS.cd st) v1.toNatClampNeg (MS.down st))))), (h 4, .inl (k 4, 6, .inr (.inl (MS.yu st)))), (h 5, .inl (k 5, 6, .inr (.inl (MS.yd st))))] := hD
      have hP : va_P (dC, dI) vwCl (WM h k ((MS.code st), (MS.lines st), (MS.num st), ((MS.cuts st) + 1), (vp_updL (MS.cu st) v1.toNatClampNeg (MS.up st)), (vp_updL (MS.cd st) v1.toNatClampNeg (MS.down st)), (MS.curves st), (MS.yu st), (MS.yd st), (MS.up st), (MS.down st), (MS.xu st), (MS.xd st), (MS.strip st), (MS.place st))) _ := hP
      have hD : va_D A (WM h k ((MS.code st), (MS.lines st), (MS.num st), ((MS.cuts st) + 1), (vp_updL (MS.cu st) v1.toNatClampNeg (MS.up st)), (vp_updL (MS.cd st) v1.toNatClampNeg (MS.down st)), (MS.curves st), (MS.yu st), (MS.yd st), (MS.up st), (MS.down st), (MS.xu st), (MS.xd st), (MS.strip st), (MS.place st))) := hD
      exact W.vret hx hb hr (fun t ht hW => ⟨⟨((MS.code st), (MS.lines st), (MS.num st), ((MS.cuts st) + 1), (vp_updL (MS.cu st) v1.toNatClampNeg (MS.up st)), (vp_updL (MS.cd st) v1.toNatClampNeg (MS.down st)), (MS.curves st), (MS.yu st), (MS.yd st), (MS.up st), (MS.down st), (MS.xu st), (MS.xd st), (MS.strip st), (MS.place st)), rfl, hw, by rw [ht]; exact hP, hD⟩, hS.F ht⟩) hS.2.2 d_M_keepCut_153
    · skip
      have hw := hw.2 c13
      refine lv_aload_n hx hb d_M_keepCut_89 rfl (lv_at hl 0 rfl) ?_
      refine va_get (D := (dC, dI)) (ci := 2) (v := .ref (h 2)) (C := RM) (T := TM) (N := 15) hx hb hts i_M hown hK hP 0 rfl rfl 4 (by decide) (hts _ m_380) (fun _ h9 => h9) rfl d_M_keepCut_90 ?_
      refine lv_iload_n hx hb d_M_keepCut_93 rfl (lv_at hl 2 rfl) ?_
      refine lv_aload_n hx hb d_M_keepCut_94 rfl (lv_at hl 0 rfl) ?_
      refine va_get (D := (dC, dI)) (ci := 2) (v := .ref (h 2)) (C := RM) (T := TM) (N := 15) hx hb hts i_M hown hK hP 0 rfl rfl 4 (by decide) (hts _ m_380) (fun _ h9 => h9) rfl d_M_keepCut_95 ?_
      refine lv_iload_n hx hb d_M_keepCut_98 rfl (lv_at hl 2 rfl) ?_
      refine lv_iconst (v := 1) hx hb d_M_keepCut_99 (by decide) ?_
      refine lv_isub hx hb d_M_keepCut_100 ?_
      obtain ⟨h15, hw⟩ := hw
      refine va_lald hx hb hK hP 2 1 rfl rfl h15 d_M_keepCut_101 ?_
      obtain ⟨h16, hw⟩ := hw
      refine va_last hx hb hK hP hD hS 2 1 rfl rfl h16 d_M_keepCut_102 (fun H locs hP hD hS => ?_)
      have hP : va_P (dC, dI) vwCl [(h 0, .inr (2, [.int (MS.code st), .int (MS.lines st), .ref (h 1), .int (MS.cuts st), .ref (h 2), .ref (h 3), .int (MS.curves st), .ref (h 4), .ref (h 5), .long (MS.up st), .long (MS.down st), .long (MS.xu st), .long (MS.xd st), .int (MS.strip st), .int (MS.place st)])), (h 1, .inl (k 1, 18, .inl (MS.num st))), (h 2, .inl (k 2, 24, .inr (.inl (vp_updL (MS.cu st) v2.toNatClampNeg ((MS.cu st) (v2 - 1).toNatClampNeg))))), (h 3, .inl (k 3, 24, .inr (.inl (MS.cd st)))), (h 4, .inl (k 4, 6, .inr (.inl (MS.yu st)))), (h 5, .inl (k 5, 6, .inr (.inl (MS.yd st))))] H := hP
      have hD : va_D A [(h 0, .inr (2, [.int (MS.code st), .int (MS.lines st), .ref (h 1), .int (MS.cuts st), .ref (h 2), .ref (h 3), .int (MS.curves st), .ref (h 4), .ref (h 5), .long (MS.up st), .long (MS.down st), .long (MS.xu st), .long (MS.xd st), .int (MS.strip st), .int (MS.place st)])), (h 1, .inl (k 1, 18, .inl (MS.num st))), (h 2, .inl (k 2, 24, .inr (.inl (vp_updL (MS.cu st) v2.toNatClampNeg ((MS.cu st) (v2 - 1).toNatClampNeg))))), (h 3, .inl (k 3, 24, .inr (.inl (MS.cd st)))), (h 4, .inl (k 4, 6, .inr (.inl (MS.yu st)))), (h 5, .inl (k 5, 6, .inr (.inl (MS.yd st))))] := hD
      refine lv_aload_n hx hb d_M_keepCut_103 rfl (lv_at hl 0 rfl) ?_
      refine va_get (D := (dC, dI)) (ci := 2) (v := .ref (h 3)) (C := RM) (T := TM) (N := 15) hx hb hts i_M hown hK hP 0 rfl rfl 5 (by decide) (hts _ m_381) (fun _ h9 => h9) rfl d_M_keepCut_104 ?_
      refine lv_iload_n hx hb d_M_keepCut_107 rfl (lv_at hl 2 rfl) ?_
      refine lv_aload_n hx hb d_M_keepCut_108 rfl (lv_at hl 0 rfl) ?_
      refine va_get (D := (dC, dI)) (ci := 2) (v := .ref (h 3)) (C := RM) (T := TM) (N := 15) hx hb hts i_M hown hK hP 0 rfl rfl 5 (by decide) (hts _ m_381) (fun _ h9 => h9) rfl d_M_keepCut_109 ?_
      refine lv_iload_n hx hb d_M_keepCut_112 rfl (lv_at hl 2 rfl) ?_
      refine lv_iconst (v := 1) hx hb d_M_keepCut_113 (by decide) ?_
      refine lv_isub hx hb d_M_keepCut_114 ?_
      refine va_lald hx hb hK hP 3 2 rfl rfl h15 d_M_keepCut_115 ?_
      refine va_last hx hb hK hP hD hS 3 2 rfl rfl h16 d_M_keepCut_116 (fun H locs hP hD hS => ?_)
      have hP : va_P (dC, dI) vwCl [(h 0, .inr (2, [.int (MS.code st), .int (MS.lines st), .ref (h 1), .int (MS.cuts st), .ref (h 2), .ref (h 3), .int (MS.curves st), .ref (h 4), .ref (h 5), .long (MS.up st), .long (MS.down st), .long (MS.xu st), .long (MS.xd st), .int (MS.strip st), .int (MS.place st)])), (h 1, .inl (k 1, 18, .inl (MS.num st))), (h 2, .inl (k 2, 24, .inr (.inl (vp_updL (MS.cu st) v2.toNatClampNeg ((MS.cu st) (v2 - 1).toNatClampNeg))))), (h 3, .inl (k 3, 24, .inr (.inl (vp_updL (MS.cd st) v2.toNatClampNeg ((MS.cd st) (v2 - 1).toNatClampNeg))))), (h 4, .inl (k 4, 6, .inr (.inl (MS.yu st)))), (h 5, .inl (k 5, 6, .inr (.inl (MS.yd st))))] H := hP
      have hD : va_D A [(h 0, .inr (2, [.int (MS.code st), .int (MS.lines st), .ref (h 1), .int (MS.cuts st), .ref (h 2), .ref (h 3), .int (MS.curves st), .ref (h 4), .ref (h 5), .long (MS.up st), .long (MS.down st), .long (MS.xu st), .long (MS.xd st), .int (MS.strip st), .int (MS.place st)])), (h 1, .inl (k 1, 18, .inl (MS.num st))), (h 2, .inl (k 2, 24, .inr (.inl (vp_updL (MS.cu st) v2.toNatClampNeg ((MS.cu st) (v2 - 1).toNatClampNeg))))), (h 3, .inl (k 3, 24, .inr (.inl (vp_updL (MS.cd st) v2.toNatClampNeg ((MS.cd st) (v2 - 1).toNatClampNeg))))), (h 4, .inl (k 4, 6, .inr (.inl (MS.yu st)))), (h 5, .inl (k 5, 6, .inr (.inl (MS.yd st))))] := hD
      refine lv_iinc (v := (v2 + (-1))) (lv' := [(2, .int (v2 + (-1))), (0, .ref (h 0)), (1, .int v1)]) hx hb d_M_keepCut_117 hl (k := 2) rfl rfl (by decide) rfl (fun ls hl => ?_)
      refine lv_goto (tgt := 84) hx hb d_M_keepCut_120 (by decide) ?_
      have hP : va_P (dC, dI) vwCl (WM h k ((MS.code st), (MS.lines st), (MS.num st), (MS.cuts st), (vp_updL (MS.cu st) v2.toNatClampNeg ((MS.cu st) (v2 - 1).toNatClampNeg)), (vp_updL (MS.cd st) v2.toNatClampNeg ((MS.cd st) (v2 - 1).toNatClampNeg)), (MS.curves st), (MS.yu st), (MS.yd st), (MS.up st), (MS.down st), (MS.xu st), (MS.xd st), (MS.strip st), (MS.place st))) _ := hP
      have hD : va_D A (WM h k ((MS.code st), (MS.lines st), (MS.num st), (MS.cuts st), (vp_updL (MS.cu st) v2.toNatClampNeg ((MS.cu st) (v2 - 1).toNatClampNeg)), (vp_updL (MS.cd st) v2.toNatClampNeg ((MS.cd st) (v2 - 1).toNatClampNeg)), (MS.curves st), (MS.yu st), (MS.yd st), (MS.up st), (MS.down st), (MS.xu st), (MS.xd st), (MS.strip st), (MS.place st))) := hD
      exact ih ((MS.code st), (MS.lines st), (MS.num st), (MS.cuts st), (vp_updL (MS.cu st) v2.toNatClampNeg ((MS.cu st) (v2 - 1).toNatClampNeg)), (vp_updL (MS.cd st) v2.toNatClampNeg ((MS.cd st) (v2 - 1).toNatClampNeg)), (MS.curves st), (MS.yu st), (MS.yd st), (MS.up st), (MS.down st), (MS.xu st), (MS.xd st), (MS.strip st), (MS.place st)) v1 (v2 + (-1)) _ _ hP hD hS ls (lv_sub hl [1, 2, 0] rfl) hw
def w_M_keepCut_2 (post : MS → Prop) : Nat → MS → Int32 → Prop
  | 0, _, _ => False
  | n + 1, st, v1 => ((MS.cuts st) ≤ v1 → (∀ y3 : Int32, y3 = (MS.cuts st) → (∃ z, w_M_keepCut_84 post z st v1 y3))) ∧ (¬ (MS.cuts st) ≤ v1 → (vp_in v1 24 ∧ ((((MS.up st) * ((MS.cd st) v1.toNatClampNeg)) ≤ (((MS.cu st) v1.toNatClampNeg) * (MS.down st)) → ((¬ ((MS.cu st) v1.toNatClampNeg) = (MS.up st) → (∀ y8 : Int32, y8 = (MS.cuts st) → (∃ z, w_M_keepCut_84 post z st v1 y8))) ∧ (((MS.cu st) v1.toNatClampNeg) = (MS.up st) → ((¬ ((MS.cd st) v1.toNatClampNeg) = (MS.down st) → (∀ y11 : Int32, y11 = (MS.cuts st) → (∃ z, w_M_keepCut_84 post z st v1 y11))) ∧ (((MS.cd st) v1.toNatClampNeg) = (MS.down st) → (post st)))))) ∧ (¬ ((MS.up st) * ((MS.cd st) v1.toNatClampNeg)) ≤ (((MS.cu st) v1.toNatClampNeg) * (MS.down st)) → (w_M_keepCut_2 post n st (v1 + 1))))))
set_option maxHeartbeats 4000000 in
set_option maxRecDepth 100000 in
theorem k_M_keepCut_2 {p : Program} {l : Launch} {e : Env} {s : State} {m : MethodId} {args : Array Value} {below : List Frame} {meth : Method} {c : Code} {dC : Nat → ClassId} {dI : Nat → Nat → Nat} {h : Nat → Nat} {k : Nat → ClassId} {A : Nat → Prop} {post : MS → Prop} (C0 : cxt p s m args meth c prog_4_method_10_code 3 RM none) (hK : va_K (dC, dI) vwCl (YM k) s) (hN : va_Nw nestW s) (hA : ∀ q, s.heap.size ≤ q → A q) : ∀ (n : Nat), ∀ (st : MS) (v1 : Int32) (H : Heap) (locs : List Loc), va_P (dC, dI) vwCl (WM h k st) H → va_D A (WM h k st) → va_S A s.heap H locs → ∀ ls, lv_has ls 3 [(0, .ref (h 0)), (1, .int v1)] → w_M_keepCut_2 post n st v1 → W p l e ({ frames := 0, cells := 0, slots := 0, locals := 0 } : Room) s m args below meth c H locs 0 0 (MQ below (va_Qv post (fun u t => va_P (dC, dI) vwCl (WM h k u) t.heap ∧ va_D A (WM h k u)) A) args s 0 0 A) (F0 m 2 ls []) := by
  obtain ⟨hx, hb, hr, hml, hown, hts, hlocks⟩ := id C0
  intro n
  induction n with
  | zero =>
    intro st v1 H locs hP hD hS ls hl hw
    exact False.elim hw
  | succ n ih =>
    intro st v1 H locs hP hD hS ls hl hw
    rw [w_M_keepCut_2] at hw
    refine lv_iload_n hx hb d_M_keepCut_2 rfl (lv_at hl 1 rfl) ?_
    refine lv_aload_n hx hb d_M_keepCut_3 rfl (lv_at hl 0 rfl) ?_
    refine va_get (D := (dC, dI)) (ci := 2) (v := .int (MS.cuts st)) (C := RM) (T := TM) (N := 15) hx hb hts i_M hown hK hP 0 rfl rfl 3 (by decide) (hts _ m_379) (fun _ h9 => h9) rfl d_M_keepCut_4 ?_
    refine lv_icmp_ge (tgt := 42) hx hb d_M_keepCut_7 (by decide) (fun c2 => ?_) (fun c2 => ?_)
    · skip
      have hw := hw.1 c2
      refine lv_iload_n hx hb d_M_keepCut_42 rfl (lv_at hl 1 rfl) ?_
      refine lv_aload_n hx hb d_M_keepCut_43 rfl (lv_at hl 0 rfl) ?_
      refine va_get (D := (dC, dI)) (ci := 2) (v := .int (MS.cuts st)) (C := RM) (T := TM) (N := 15) hx hb hts i_M hown hK hP 0 rfl rfl 3 (by decide) (hts _ m_379) (fun _ h9 => h9) rfl d_M_keepCut_44 ?_
      refine lv_icmp_ge (tgt := 79) hx hb d_M_keepCut_47 (by decide) (fun _ => ?_) (fun cz => absurd c2 cz)
      refine lv_aload_n hx hb d_M_keepCut_79 rfl (lv_at hl 0 rfl) ?_
      refine va_get (D := (dC, dI)) (ci := 2) (v := .int (MS.cuts st)) (C := RM) (T := TM) (N := 15) hx hb hts i_M hown hK hP 0 rfl rfl 3 (by decide) (hts _ m_379) (fun _ h9 => h9) rfl d_M_keepCut_80 ?_
      refine lv_topi (fun y3 ey3 => ?_)
      have hw := hw y3 ey3
      refine lv_istore_n (lv' := [(2, .int y3), (0, .ref (h 0)), (1, .int v1)]) hx hb d_M_keepCut_83 rfl hl (by decide) rfl (fun ls hl => ?_)
      obtain ⟨n4, hw⟩ := hw
      exact k_M_keepCut_84 C0 hK hN hA n4 st v1 y3 _ _ hP hD hS ls (lv_sub hl [1, 2, 0] rfl) hw
    · skip
      have hw := hw.2 c2
      refine lv_aload_n hx hb d_M_keepCut_10 rfl (lv_at hl 0 rfl) ?_
      refine va_get (D := (dC, dI)) (ci := 2) (v := .ref (h 2)) (C := RM) (T := TM) (N := 15) hx hb hts i_M hown hK hP 0 rfl rfl 4 (by decide) (hts _ m_380) (fun _ h9 => h9) rfl d_M_keepCut_11 ?_
      refine lv_iload_n hx hb d_M_keepCut_14 rfl (lv_at hl 1 rfl) ?_
      obtain ⟨h5, hw⟩ := hw
      refine va_lald hx hb hK hP 2 1 rfl rfl h5 d_M_keepCut_15 ?_
      refine lv_aload_n hx hb d_M_keepCut_16 rfl (lv_at hl 0 rfl) ?_
      refine va_get (D := (dC, dI)) (ci := 2) (v := .long (MS.down st)) (C := RM) (T := TM) (N := 15) hx hb hts i_M hown hK hP 0 rfl rfl 10 (by decide) (hts _ m_386) (fun _ h9 => h9) rfl d_M_keepCut_17 ?_
      refine lv_lmul hx hb d_M_keepCut_20 ?_
      refine lv_aload_n hx hb d_M_keepCut_21 rfl (lv_at hl 0 rfl) ?_
      refine va_get (D := (dC, dI)) (ci := 2) (v := .long (MS.up st)) (C := RM) (T := TM) (N := 15) hx hb hts i_M hown hK hP 0 rfl rfl 9 (by decide) (hts _ m_385) (fun _ h9 => h9) rfl d_M_keepCut_22 ?_
      refine lv_aload_n hx hb d_M_keepCut_25 rfl (lv_at hl 0 rfl) ?_
      refine va_get (D := (dC, dI)) (ci := 2) (v := .ref (h 3)) (C := RM) (T := TM) (N := 15) hx hb hts i_M hown hK hP 0 rfl rfl 5 (by decide) (hts _ m_381) (fun _ h9 => h9) rfl d_M_keepCut_26 ?_
      refine lv_iload_n hx hb d_M_keepCut_29 rfl (lv_at hl 1 rfl) ?_
      refine va_lald hx hb hK hP 3 2 rfl rfl h5 d_M_keepCut_30 ?_
      refine lv_lmul hx hb d_M_keepCut_31 ?_
      refine W.lcmp hx hb d_M_keepCut_32 ?_
      refine lv_if_ge (tgt := 42) hx hb d_M_keepCut_33 (by decide) (fun c6 => ?_) (fun c6 => ?_)
      · have c6 : ((MS.up st) * ((MS.cd st) v1.toNatClampNeg)) ≤ (((MS.cu st) v1.toNatClampNeg) * (MS.down st)) := (lgc_ge.mp c6)
        have hw := hw.1 c6
        refine lv_iload_n hx hb d_M_keepCut_42 rfl (lv_at hl 1 rfl) ?_
        refine lv_aload_n hx hb d_M_keepCut_43 rfl (lv_at hl 0 rfl) ?_
        refine va_get (D := (dC, dI)) (ci := 2) (v := .int (MS.cuts st)) (C := RM) (T := TM) (N := 15) hx hb hts i_M hown hK hP 0 rfl rfl 3 (by decide) (hts _ m_379) (fun _ h9 => h9) rfl d_M_keepCut_44 ?_
        refine lv_icmp_ge (tgt := 79) hx hb d_M_keepCut_47 (by decide) (fun cz => absurd cz c2) (fun _ => ?_)
        refine lv_aload_n hx hb d_M_keepCut_50 rfl (lv_at hl 0 rfl) ?_
        refine va_get (D := (dC, dI)) (ci := 2) (v := .ref (h 2)) (C := RM) (T := TM) (N := 15) hx hb hts i_M hown hK hP 0 rfl rfl 4 (by decide) (hts _ m_380) (fun _ h9 => h9) rfl d_M_keepCut_51 ?_
        refine lv_iload_n hx hb d_M_keepCut_54 rfl (lv_at hl 1 rfl) ?_
        refine va_lald hx hb hK hP 2 1 rfl rfl h5 d_M_keepCut_55 ?_
        refine lv_aload_n hx hb d_M_keepCut_56 rfl (lv_at hl 0 rfl) ?_
        refine va_get (D := (dC, dI)) (ci := 2) (v := .long (MS.up st)) (C := RM) (T := TM) (N := 15) hx hb hts i_M hown hK hP 0 rfl rfl 9 (by decide) (hts _ m_385) (fun _ h9 => h9) rfl d_M_keepCut_57 ?_
        refine W.lcmp hx hb d_M_keepCut_60 ?_
        refine lv_if_ne (tgt := 79) hx hb d_M_keepCut_61 (by decide) (fun c7 => ?_) (fun c7 => ?_)
        · have c7 : ¬ ((MS.cu st) v1.toNatClampNeg) = (MS.up st) := (fun q => c7 (lgc_eq.mpr q))
          have hw := hw.1 c7
          refine lv_aload_n hx hb d_M_keepCut_79 rfl (lv_at hl 0 rfl) ?_
          refine va_get (D := (dC, dI)) (ci := 2) (v := .int (MS.cuts st)) (C := RM) (T := TM) (N := 15) hx hb hts i_M hown hK hP 0 rfl rfl 3 (by decide) (hts _ m_379) (fun _ h9 => h9) rfl d_M_keepCut_80 ?_
          refine lv_topi (fun y8 ey8 => ?_)
          have hw := hw y8 ey8
          refine lv_istore_n (lv' := [(2, .int y8), (0, .ref (h 0)), (1, .int v1)]) hx hb d_M_keepCut_83 rfl hl (by decide) rfl (fun ls hl => ?_)
          obtain ⟨n9, hw⟩ := hw
          exact k_M_keepCut_84 C0 hK hN hA n9 st v1 y8 _ _ hP hD hS ls (lv_sub hl [1, 2, 0] rfl) hw
        · have c7 : ((MS.cu st) v1.toNatClampNeg) = (MS.up st) := (lgc_eq.mp c7)
          have hw := hw.2 c7
          refine lv_aload_n hx hb d_M_keepCut_64 rfl (lv_at hl 0 rfl) ?_
          refine va_get (D := (dC, dI)) (ci := 2) (v := .ref (h 3)) (C := RM) (T := TM) (N := 15) hx hb hts i_M hown hK hP 0 rfl rfl 5 (by decide) (hts _ m_381) (fun _ h9 => h9) rfl d_M_keepCut_65 ?_
          refine lv_iload_n hx hb d_M_keepCut_68 rfl (lv_at hl 1 rfl) ?_
          refine va_lald hx hb hK hP 3 2 rfl rfl h5 d_M_keepCut_69 ?_
          refine lv_aload_n hx hb d_M_keepCut_70 rfl (lv_at hl 0 rfl) ?_
          refine va_get (D := (dC, dI)) (ci := 2) (v := .long (MS.down st)) (C := RM) (T := TM) (N := 15) hx hb hts i_M hown hK hP 0 rfl rfl 10 (by decide) (hts _ m_386) (fun _ h9 => h9) rfl d_M_keepCut_71 ?_
          refine W.lcmp hx hb d_M_keepCut_74 ?_
          refine lv_if_ne (tgt := 79) hx hb d_M_keepCut_75 (by decide) (fun c10 => ?_) (fun c10 => ?_)
          · have c10 : ¬ ((MS.cd st) v1.toNatClampNeg) = (MS.down st) := (fun q => c10 (lgc_eq.mpr q))
            have hw := hw.1 c10
            refine lv_aload_n hx hb d_M_keepCut_79 rfl (lv_at hl 0 rfl) ?_
            refine va_get (D := (dC, dI)) (ci := 2) (v := .int (MS.cuts st)) (C := RM) (T := TM) (N := 15) hx hb hts i_M hown hK hP 0 rfl rfl 3 (by decide) (hts _ m_379) (fun _ h9 => h9) rfl d_M_keepCut_80 ?_
            refine lv_topi (fun y11 ey11 => ?_)
            have hw := hw y11 ey11
            refine lv_istore_n (lv' := [(2, .int y11), (0, .ref (h 0)), (1, .int v1)]) hx hb d_M_keepCut_83 rfl hl (by decide) rfl (fun ls hl => ?_)
            obtain ⟨n12, hw⟩ := hw
            exact k_M_keepCut_84 C0 hK hN hA n12 st v1 y11 _ _ hP hD hS ls (lv_sub hl [1, 2, 0] rfl) hw
          · have c10 : ((MS.cd st) v1.toNatClampNeg) = (MS.down st) := (lgc_eq.mp c10)
            have hw := hw.2 c10
            exact W.vret hx hb hr (fun t ht hW => ⟨⟨st, rfl, hw, by rw [ht]; exact hP, hD⟩, hS.F ht⟩) hS.2.2 d_M_keepCut_78
      · have c6 : ¬ ((MS.up st) * ((MS.cd st) v1.toNatClampNeg)) ≤ (((MS.cu st) v1.toNatClampNeg) * (MS.down st)) := (fun q => c6 (lgc_ge.mpr q))
        have hw := hw.2 c6
        refine lv_iinc (v := (v1 + 1)) (lv' := [(1, .int (v1 + 1)), (0, .ref (h 0))]) hx hb d_M_keepCut_36 hl (k := 1) rfl rfl (by decide) rfl (fun ls hl => ?_)
        refine lv_goto (tgt := 2) hx hb d_M_keepCut_39 (by decide) ?_
        exact ih st (v1 + 1) _ _ hP hD hS ls (lv_sub hl [1, 0] rfl) hw
def w_M_keepCut (st : MS) (post : MS → Prop) : Prop := ∃ z, w_M_keepCut_2 post z st 0
set_option maxHeartbeats 4000000 in
set_option maxRecDepth 100000 in
theorem t_M_keepCut (l : Launch) (dC : Nat → ClassId) (dI : Nat → Nat → Nat) (h : Nat → Nat) (k : Nat → ClassId) (sz : Nat) (st : MS) {post : MS → Prop} (hw : w_M_keepCut st post) : Met l y_M_keepCut (Cond.code y_M_keepCut prog_4_method_10_code 3 none :: cw) ({ frames := 0, cells := 0, slots := 0, locals := 0 } : Room) (va_Pc [.ref (h 0)] (pRw (dC, dI) (WM h k st) (YM k) sz)) (va_Qv post (fun u t => va_P (dC, dI) vwCl (WM h k u) t.heap ∧ va_D (va_A (WM h k st) sz) (WM h k u)) (va_A (WM h k st) sz)) 0 0 (va_A (WM h k st) sz) := by
  refine Met.ofW (cc := prog_4_method_10_code) (maxL := 3) (ret := none) (by decide) rfl ?_
  intro p e s m args below meth c s₁ B hml hv
  obtain ⟨rfl, hsz, hP, hK, hN, hD0⟩ := hv
  have hx := B.exec
  have hb := B.bytes
  have hr := B.returns
  have hts : ∀ w ∈ cw, w.before _ s = true := fun w h => atoms_spec (ws := (Cond.code y_M_keepCut prog_4_method_10_code 3 none :: cw)) B.pre w (List.mem_cons_of_mem _ h)
  have hown : s.vm.findClass RM = some m.cls := findClass_of_methodNamed B.named
  have hlocks := B.notSynchronized
  have C0 : cxt p s m _ meth c prog_4_method_10_code 3 RM none := ⟨hx, hb, hr, hml, hown, hts, hlocks⟩
  subst hsz
  have hD := hD0.self (sz := s.heap.size)
  generalize hAe : va_A (WM h k st) s.heap.size = A at hD ⊢
  have hA : ∀ q : Nat, s.heap.size ≤ q → A q := fun q h => by rw [← hAe]; exact Or.inr h
  have hS : va_S A s.heap s.heap [] := va_S.rf
  have hl := lv_entry ([.ref (h 0)]) (n := 3) (Nat.le_of_ble_eq_true rfl)
  rw [lg_entry_eq]
  generalize (lg_sl ([.ref (h 0)]) ++ List.replicate (3 - (lg_sl ([.ref (h 0)])).length) Slot.unset).toArray = ls at hl ⊢
  have hl : lv_has ls 3 [(0, .ref (h 0))] := hl
  unfold w_M_keepCut at hw
  refine lv_iconst (v := 0) hx hb d_M_keepCut_0 (by decide) ?_
  refine lv_istore_n (lv' := [(1, .int 0), (0, .ref (h 0))]) hx hb d_M_keepCut_1 rfl hl (by decide) rfl (fun ls hl => ?_)
  obtain ⟨n1, hw⟩ := hw
  exact k_M_keepCut_2 C0 hK hN hA n1 st 0 _ _ hP hD hS ls (lv_sub hl [1, 0] rfl) hw
def w_M_look_59 (post : MS → Prop) (K7 : MS → Int32 → Prop) : Nat → MS → Int32 → Int32 → Prop
  | 0, _, _, _ => False
  | n + 1, st, v1, v2 => (v1 ≤ v2 → (K7 st (v1 + 1))) ∧ (¬ v1 ≤ v2 → (vp_in (3 * v1) 18 ∧ (vp_in ((3 * v2) + 1) 18 ∧ (vp_in (3 * v2) 18 ∧ (vp_in ((3 * v1) + 1) 18 ∧ (∀ y16 : Int32, y16 = ((((MS.num st) (3 * v1).toNatClampNeg) * ((MS.num st) ((3 * v2) + 1).toNatClampNeg)) - (((MS.num st) (3 * v2).toNatClampNeg) * ((MS.num st) ((3 * v1) + 1).toNatClampNeg))) → ((¬ y16 = 0 → (vp_in ((3 * v2) + 2) 18 ∧ (vp_in ((3 * v1) + 2) 18 ∧ (w_M_lowest st (fun u20 => (w_M_keepCut u20 (fun u21 => (w_M_look_59 post K7 n u21 v1 (v2 + 1))) )) (((((MS.num st) ((3 * v1) + 1).toNatClampNeg).toInt64) * (((MS.num st) ((3 * v2) + 2).toNatClampNeg).toInt64)) - ((((MS.num st) ((3 * v2) + 1).toNatClampNeg).toInt64) * (((MS.num st) ((3 * v1) + 2).toNatClampNeg).toInt64))) y16.toInt64)))) ∧ (y16 = 0 → (w_M_look_59 post K7 n st v1 (v2 + 1))))))))))
set_option maxHeartbeats 4000000 in
set_option maxRecDepth 100000 in
theorem k_M_look_59 {p : Program} {l : Launch} {e : Env} {s : State} {m : MethodId} {args : Array Value} {below : List Frame} {meth : Method} {c : Code} {dC : Nat → ClassId} {dI : Nat → Nat → Nat} {h : Nat → Nat} {k : Nat → ClassId} {A : Nat → Prop} {post : MS → Prop} {K7 : MS → Int32 → Prop} (C0 : cxt p s m args meth c prog_4_method_9_code 4 RM none) (hK : va_K (dC, dI) vwCl (YM k) s) (hN : va_Nw nestW s) (hA : ∀ q, s.heap.size ≤ q → A q) (hK7 : ∀ (st : MS) (v1 : Int32) (H : Heap) (locs : List Loc), va_P (dC, dI) vwCl (WM h k st) H → va_D A (WM h k st) → va_S A s.heap H locs → ∀ ls, lv_has ls 4 [(0, .ref (h 0)), (1, .int v1)] → K7 st v1 → W p l e ({ frames := 1, cells := 0, slots := 0, locals := 30 } : Room) s m args below meth c H locs 0 0 (MQ below (va_Qv post (fun u t => va_P (dC, dI) vwCl (WM h k u) t.heap ∧ va_D A (WM h k u)) A) args s 0 0 A) (F0 m 7 ls [])) : ∀ (n : Nat), ∀ (st : MS) (v1 : Int32) (v2 : Int32) (H : Heap) (locs : List Loc), va_P (dC, dI) vwCl (WM h k st) H → va_D A (WM h k st) → va_S A s.heap H locs → ∀ ls, lv_has ls 4 [(0, .ref (h 0)), (1, .int v1), (2, .int v2)] → w_M_look_59 post K7 n st v1 v2 → W p l e ({ frames := 1, cells := 0, slots := 0, locals := 30 } : Room) s m args below meth c H locs 0 0 (MQ below (va_Qv post (fun u t => va_P (dC, dI) vwCl (WM h k u) t.heap ∧ va_D A (WM h k u)) A) args s 0 0 A) (F0 m 59 ls []) := by
  obtain ⟨hx, hb, hr, hml, hown, hts, hlocks⟩ := id C0
  intro n
  induction n with
  | zero =>
    intro st v1 v2 H locs hP hD hS ls hl hw
    exact False.elim hw
  | succ n ih =>
    intro st v1 v2 H locs hP hD hS ls hl hw
    rw [w_M_look_59] at hw
    refine lv_iload_n hx hb d_M_look_59 rfl (lv_at hl 2 rfl) ?_
    refine lv_iload_n hx hb d_M_look_60 rfl (lv_at hl 1 rfl) ?_
    refine lv_icmp_ge (tgt := 174) hx hb d_M_look_61 (by decide) (fun c11 => ?_) (fun c11 => ?_)
    · skip
      have hw := hw.1 c11
      refine lv_iinc (v := (v1 + 1)) (lv' := [(1, .int (v1 + 1)), (0, .ref (h 0)), (2, .int v2)]) hx hb d_M_look_174 hl (k := 1) rfl rfl (by decide) rfl (fun ls hl => ?_)
      refine lv_goto (tgt := 7) hx hb d_M_look_177 (by decide) ?_
      exact hK7 st (v1 + 1) _ _ hP hD hS ls (lv_sub hl [1, 0] rfl) hw
    · skip
      have hw := hw.2 c11
      refine lv_aload_n hx hb d_M_look_64 rfl (lv_at hl 0 rfl) ?_
      refine va_get (D := (dC, dI)) (ci := 2) (v := .ref (h 1)) (C := RM) (T := TM) (N := 15) hx hb hts i_M hown hK hP 0 rfl rfl 2 (by decide) (hts _ m_378) (fun _ h9 => h9) rfl d_M_look_65 ?_
      refine lv_iconst (v := 3) hx hb d_M_look_68 (by decide) ?_
      refine lv_iload_n hx hb d_M_look_69 rfl (lv_at hl 1 rfl) ?_
      refine lv_imul hx hb d_M_look_70 ?_
      obtain ⟨h12, hw⟩ := hw
      refine va_iald hx hb hK hP 1 0 rfl rfl h12 d_M_look_71 ?_
      refine lv_aload_n hx hb d_M_look_72 rfl (lv_at hl 0 rfl) ?_
      refine va_get (D := (dC, dI)) (ci := 2) (v := .ref (h 1)) (C := RM) (T := TM) (N := 15) hx hb hts i_M hown hK hP 0 rfl rfl 2 (by decide) (hts _ m_378) (fun _ h9 => h9) rfl d_M_look_73 ?_
      refine lv_iconst (v := 3) hx hb d_M_look_76 (by decide) ?_
      refine lv_iload_n hx hb d_M_look_77 rfl (lv_at hl 2 rfl) ?_
      refine lv_imul hx hb d_M_look_78 ?_
      refine lv_iconst (v := 1) hx hb d_M_look_79 (by decide) ?_
      refine lv_iadd hx hb d_M_look_80 ?_
      obtain ⟨h13, hw⟩ := hw
      refine va_iald hx hb hK hP 1 0 rfl rfl h13 d_M_look_81 ?_
      refine lv_imul hx hb d_M_look_82 ?_
      refine lv_aload_n hx hb d_M_look_83 rfl (lv_at hl 0 rfl) ?_
      refine va_get (D := (dC, dI)) (ci := 2) (v := .ref (h 1)) (C := RM) (T := TM) (N := 15) hx hb hts i_M hown hK hP 0 rfl rfl 2 (by decide) (hts _ m_378) (fun _ h9 => h9) rfl d_M_look_84 ?_
      refine lv_iconst (v := 3) hx hb d_M_look_87 (by decide) ?_
      refine lv_iload_n hx hb d_M_look_88 rfl (lv_at hl 2 rfl) ?_
      refine lv_imul hx hb d_M_look_89 ?_
      obtain ⟨h14, hw⟩ := hw
      refine va_iald hx hb hK hP 1 0 rfl rfl h14 d_M_look_90 ?_
      refine lv_aload_n hx hb d_M_look_91 rfl (lv_at hl 0 rfl) ?_
      refine va_get (D := (dC, dI)) (ci := 2) (v := .ref (h 1)) (C := RM) (T := TM) (N := 15) hx hb hts i_M hown hK hP 0 rfl rfl 2 (by decide) (hts _ m_378) (fun _ h9 => h9) rfl d_M_look_92 ?_
      refine lv_iconst (v := 3) hx hb d_M_look_95 (by decide) ?_
      refine lv_iload_n hx hb d_M_look_96 rfl (lv_at hl 1 rfl) ?_
      refine lv_imul hx hb d_M_look_97 ?_
      refine lv_iconst (v := 1) hx hb d_M_look_98 (by decide) ?_
      refine lv_iadd hx hb d_M_look_99 ?_
      obtain ⟨h15, hw⟩ := hw
      refine va_iald hx hb hK hP 1 0 rfl rfl h15 d_M_look_100 ?_
      refine lv_imul hx hb d_M_look_101 ?_
      refine lv_isub hx hb d_M_look_102 ?_
      refine lv_topi (fun y16 ey16 => ?_)
      have hw := hw y16 ey16
      refine lv_istore_n (lv' := [(3, .int y16), (0, .ref (h 0)), (1, .int v1), (2, .int v2)]) hx hb d_M_look_103 rfl hl (by decide) rfl (fun ls hl => ?_)
      refine lv_iload_n hx hb d_M_look_104 rfl (lv_at hl 0 rfl) ?_
      refine lv_if_ne (tgt := 111) hx hb d_M_look_105 (by decide) (fun c17 => ?_) (fun c17 => ?_)
      · skip
        have hw := hw.1 c17
        refine lv_aload_n hx hb d_M_look_111 rfl (lv_at hl 1 rfl) ?_
        refine lv_aload_n hx hb d_M_look_112 rfl (lv_at hl 1 rfl) ?_
        refine va_get (D := (dC, dI)) (ci := 2) (v := .ref (h 1)) (C := RM) (T := TM) (N := 15) hx hb hts i_M hown hK hP 0 rfl rfl 2 (by decide) (hts _ m_378) (fun _ h9 => h9) rfl d_M_look_113 ?_
        refine lv_iconst (v := 3) hx hb d_M_look_116 (by decide) ?_
        refine lv_iload_n hx hb d_M_look_117 rfl (lv_at hl 2 rfl) ?_
        refine lv_imul hx hb d_M_look_118 ?_
        refine lv_iconst (v := 1) hx hb d_M_look_119 (by decide) ?_
        refine lv_iadd hx hb d_M_look_120 ?_
        refine va_iald hx hb hK hP 1 0 rfl rfl h15 d_M_look_121 ?_
        refine lv_i2l (v := ((MS.num st) ((3 * v1) + 1).toNatClampNeg).toInt64) hx hb d_M_look_122 rfl ?_
        refine lv_aload_n hx hb d_M_look_123 rfl (lv_at hl 1 rfl) ?_
        refine va_get (D := (dC, dI)) (ci := 2) (v := .ref (h 1)) (C := RM) (T := TM) (N := 15) hx hb hts i_M hown hK hP 0 rfl rfl 2 (by decide) (hts _ m_378) (fun _ h9 => h9) rfl d_M_look_124 ?_
        refine lv_iconst (v := 3) hx hb d_M_look_127 (by decide) ?_
        refine lv_iload_n hx hb d_M_look_128 rfl (lv_at hl 3 rfl) ?_
        refine lv_imul hx hb d_M_look_129 ?_
        refine lv_iconst (v := 2) hx hb d_M_look_130 (by decide) ?_
        refine lv_iadd hx hb d_M_look_131 ?_
        obtain ⟨h18, hw⟩ := hw
        refine va_iald hx hb hK hP 1 0 rfl rfl h18 d_M_look_132 ?_
        refine lv_i2l (v := ((MS.num st) ((3 * v2) + 2).toNatClampNeg).toInt64) hx hb d_M_look_133 rfl ?_
        refine lv_lmul hx hb d_M_look_134 ?_
        refine lv_aload_n hx hb d_M_look_135 rfl (lv_at hl 1 rfl) ?_
        refine va_get (D := (dC, dI)) (ci := 2) (v := .ref (h 1)) (C := RM) (T := TM) (N := 15) hx hb hts i_M hown hK hP 0 rfl rfl 2 (by decide) (hts _ m_378) (fun _ h9 => h9) rfl d_M_look_136 ?_
        refine lv_iconst (v := 3) hx hb d_M_look_139 (by decide) ?_
        refine lv_iload_n hx hb d_M_look_140 rfl (lv_at hl 3 rfl) ?_
        refine lv_imul hx hb d_M_look_141 ?_
        refine lv_iconst (v := 1) hx hb d_M_look_142 (by decide) ?_
        refine lv_iadd hx hb d_M_look_143 ?_
        refine va_iald hx hb hK hP 1 0 rfl rfl h13 d_M_look_144 ?_
        refine lv_i2l (v := ((MS.num st) ((3 * v2) + 1).toNatClampNeg).toInt64) hx hb d_M_look_145 rfl ?_
        refine lv_aload_n hx hb d_M_look_146 rfl (lv_at hl 1 rfl) ?_
        refine va_get (D := (dC, dI)) (ci := 2) (v := .ref (h 1)) (C := RM) (T := TM) (N := 15) hx hb hts i_M hown hK hP 0 rfl rfl 2 (by decide) (hts _ m_378) (fun _ h9 => h9) rfl d_M_look_147 ?_
        refine lv_iconst (v := 3) hx hb d_M_look_150 (by decide) ?_
        refine lv_iload_n hx hb d_M_look_151 rfl (lv_at hl 2 rfl) ?_
        refine lv_imul hx hb d_M_look_152 ?_
        refine lv_iconst (v := 2) hx hb d_M_look_153 (by decide) ?_
        refine lv_iadd hx hb d_M_look_154 ?_
        obtain ⟨h19, hw⟩ := hw
        refine va_iald hx hb hK hP 1 0 rfl rfl h19 d_M_look_155 ?_
        refine lv_i2l (v := ((MS.num st) ((3 * v1) + 2).toNatClampNeg).toInt64) hx hb d_M_look_156 rfl ?_
        refine lv_lmul hx hb d_M_look_157 ?_
        refine lv_lsub hx hb d_M_look_158 ?_
        refine lv_iload_n hx hb d_M_look_159 rfl (lv_at hl 0 rfl) ?_
        refine lv_i2l (v := y16.toInt64) hx hb d_M_look_160 rfl ?_
        have hFc := va_freeA hD hS hA
        refine va_callv (va_runV (As := [.long (((((MS.num st) ((3 * v1) + 1).toNatClampNeg).toInt64) * (((MS.num st) ((3 * v2) + 2).toNatClampNeg).toInt64)) - ((((MS.num st) ((3 * v2) + 1).toNatClampNeg).toInt64) * (((MS.num st) ((3 * v1) + 2).toNatClampNeg).toInt64))), .long y16.toInt64]) (rest := []) ⟨hx, hb, hml, hown, hts⟩ (t_M_lowest l dC dI h k _ st (((((MS.num st) ((3 * v1) + 1).toNatClampNeg).toInt64) * (((MS.num st) ((3 * v2) + 2).toNatClampNeg).toInt64)) - ((((MS.num st) ((3 * v2) + 1).toNatClampNeg).toInt64) * (((MS.num st) ((3 * v1) + 2).toNatClampNeg).toInt64))) y16.toInt64 hw) (cwV 2 hts (gV m_439 m_441 s_17 m_5 (cw_call m_442)) rfl rfl rfl (by decide +kernel) ⟨Nat.le_of_ble_eq_true rfl, Nat.le_of_ble_eq_true rfl⟩) ⟨pRw_bl, va_recv hK hP (ci := 2) (q0 := 0) rfl rfl, fun U hU hW => ⟨rfl, pRw_at hP hK hN hD hU hW⟩⟩ rfl rfl hl.1 rfl (lv_room (Nat.le_of_ble_eq_true rfl)) d_M_look_161 ⟨Nat.le_of_ble_eq_true rfl, Nat.le_of_ble_eq_true rfl⟩) hS (fun q _ h => hFc q h) hFc (fun u20 t H1 locs ht hvm hw hB hz1 hk1 hS => ?_)
        obtain ⟨hP1, hD1⟩ := hB
        rw [ht] at hP1
        have hP := hP1
        have hD := hD1.weaken (fun _ q _ h => hFc q.1 h)
        generalize H1 = H at hP hS ⊢
        have hP : va_P (dC, dI) vwCl (WM h k u20) H := hP
        have hD : va_D A (WM h k u20) := hD
        refine lv_aload_n hx hb d_M_look_164 rfl (lv_at hl 1 rfl) ?_
        have hFc := va_freeA hD hS hA
        refine va_callv (va_runV (As := []) (rest := []) ⟨hx, hb, hml, hown, hts⟩ (t_M_keepCut l dC dI h k _ u20  hw) (cwV 0 hts (gV m_443 m_445 s_18 m_5 (cw_call m_446)) rfl rfl rfl (by decide +kernel) ⟨Nat.le_of_ble_eq_true rfl, Nat.le_of_ble_eq_true rfl⟩) ⟨pRw_bl, va_recv hK hP (ci := 2) (q0 := 0) rfl rfl, fun U hU hW => ⟨rfl, pRw_at hP hK hN hD hU hW⟩⟩ rfl rfl hl.1 rfl (lv_room (Nat.le_of_ble_eq_true rfl)) d_M_look_165 ⟨Nat.le_of_ble_eq_true rfl, Nat.le_of_ble_eq_true rfl⟩) hS (fun q _ h => hFc q h) hFc (fun u21 t H1 locs ht hvm hw hB hz1 hk1 hS => ?_)
        obtain ⟨hP1, hD1⟩ := hB
        rw [ht] at hP1
        have hP := hP1
        have hD := hD1.weaken (fun _ q _ h => hFc q.1 h)
        generalize H1 = H at hP hS ⊢
        have hP : va_P (dC, dI) vwCl (WM h k u21) H := hP
        have hD : va_D A (WM h k u21) := hD
        refine lv_iinc (v := (v2 + 1)) (lv' := [(2, .int (v2 + 1)), (3, .int y16), (0, .ref (h 0)), (1, .int v1)]) hx hb d_M_look_168 hl (k := 3) rfl rfl (by decide) rfl (fun ls hl => ?_)
        refine lv_goto (tgt := 59) hx hb d_M_look_171 (by decide) ?_
        exact ih u21 v1 (v2 + 1) _ _ hP hD hS ls (lv_sub hl [2, 3, 0] rfl) hw
      · skip
        have hw := hw.2 c17
        refine lv_goto (tgt := 168) hx hb d_M_look_108 (by decide) ?_
        refine lv_iinc (v := (v2 + 1)) (lv' := [(2, .int (v2 + 1)), (3, .int y16), (0, .ref (h 0)), (1, .int v1)]) hx hb d_M_look_168 hl (k := 3) rfl rfl (by decide) rfl (fun ls hl => ?_)
        refine lv_goto (tgt := 59) hx hb d_M_look_171 (by decide) ?_
        exact ih st v1 (v2 + 1) _ _ hP hD hS ls (lv_sub hl [2, 3, 0] rfl) hw
def w_M_look_7 (post : MS → Prop) : Nat → MS → Int32 → Prop
  | 0, _, _ => False
  | n + 1, st, v1 => ((MS.lines st) ≤ v1 → (post st)) ∧ (¬ (MS.lines st) ≤ v1 → (vp_in ((3 * v1) + 1) 18 ∧ ((¬ ((MS.num st) ((3 * v1) + 1).toNatClampNeg) = 0 → (∃ z, w_M_look_59 post (fun a0 a1 => w_M_look_7 post n a0 a1) z st v1 0)) ∧ (((MS.num st) ((3 * v1) + 1).toNatClampNeg) = 0 → (vp_in ((3 * v1) + 2) 18 ∧ (vp_in (3 * v1) 18 ∧ (w_M_lowest st (fun u8 => (w_M_keepCut u8 (fun u9 => (∃ z, w_M_look_59 post (fun a0 a1 => w_M_look_7 post n a0 a1) z u9 v1 0)) )) ((-((MS.num st) ((3 * v1) + 2).toNatClampNeg)).toInt64) (((MS.num st) (3 * v1).toNatClampNeg).toInt64))))))))
set_option maxHeartbeats 4000000 in
set_option maxRecDepth 100000 in
theorem k_M_look_7 {p : Program} {l : Launch} {e : Env} {s : State} {m : MethodId} {args : Array Value} {below : List Frame} {meth : Method} {c : Code} {dC : Nat → ClassId} {dI : Nat → Nat → Nat} {h : Nat → Nat} {k : Nat → ClassId} {A : Nat → Prop} {post : MS → Prop} (C0 : cxt p s m args meth c prog_4_method_9_code 4 RM none) (hK : va_K (dC, dI) vwCl (YM k) s) (hN : va_Nw nestW s) (hA : ∀ q, s.heap.size ≤ q → A q) : ∀ (n : Nat), ∀ (st : MS) (v1 : Int32) (H : Heap) (locs : List Loc), va_P (dC, dI) vwCl (WM h k st) H → va_D A (WM h k st) → va_S A s.heap H locs → ∀ ls, lv_has ls 4 [(0, .ref (h 0)), (1, .int v1)] → w_M_look_7 post n st v1 → W p l e ({ frames := 1, cells := 0, slots := 0, locals := 30 } : Room) s m args below meth c H locs 0 0 (MQ below (va_Qv post (fun u t => va_P (dC, dI) vwCl (WM h k u) t.heap ∧ va_D A (WM h k u)) A) args s 0 0 A) (F0 m 7 ls []) := by
  obtain ⟨hx, hb, hr, hml, hown, hts, hlocks⟩ := id C0
  intro n
  induction n with
  | zero =>
    intro st v1 H locs hP hD hS ls hl hw
    exact False.elim hw
  | succ n ih =>
    intro st v1 H locs hP hD hS ls hl hw
    rw [w_M_look_7] at hw
    refine lv_iload_n hx hb d_M_look_7 rfl (lv_at hl 1 rfl) ?_
    refine lv_aload_n hx hb d_M_look_8 rfl (lv_at hl 0 rfl) ?_
    refine va_get (D := (dC, dI)) (ci := 2) (v := .int (MS.lines st)) (C := RM) (T := TM) (N := 15) hx hb hts i_M hown hK hP 0 rfl rfl 1 (by decide) (hts _ m_377) (fun _ h9 => h9) rfl d_M_look_9 ?_
    refine lv_icmp_ge (tgt := 180) hx hb d_M_look_12 (by decide) (fun c2 => ?_) (fun c2 => ?_)
    · skip
      have hw := hw.1 c2
      exact W.vret hx hb hr (fun t ht hW => ⟨⟨st, rfl, hw, by rw [ht]; exact hP, hD⟩, hS.F ht⟩) hS.2.2 d_M_look_180
    · skip
      have hw := hw.2 c2
      refine lv_aload_n hx hb d_M_look_15 rfl (lv_at hl 0 rfl) ?_
      refine va_get (D := (dC, dI)) (ci := 2) (v := .ref (h 1)) (C := RM) (T := TM) (N := 15) hx hb hts i_M hown hK hP 0 rfl rfl 2 (by decide) (hts _ m_378) (fun _ h9 => h9) rfl d_M_look_16 ?_
      refine lv_iconst (v := 3) hx hb d_M_look_19 (by decide) ?_
      refine lv_iload_n hx hb d_M_look_20 rfl (lv_at hl 1 rfl) ?_
      refine lv_imul hx hb d_M_look_21 ?_
      refine lv_iconst (v := 1) hx hb d_M_look_22 (by decide) ?_
      refine lv_iadd hx hb d_M_look_23 ?_
      obtain ⟨h3, hw⟩ := hw
      refine va_iald hx hb hK hP 1 0 rfl rfl h3 d_M_look_24 ?_
      refine lv_if_ne (tgt := 57) hx hb d_M_look_25 (by decide) (fun c4 => ?_) (fun c4 => ?_)
      · skip
        have hw := hw.1 c4
        refine lv_iconst (v := 0) hx hb d_M_look_57 (by decide) ?_
        refine lv_istore_n (lv' := [(2, .int 0), (0, .ref (h 0)), (1, .int v1)]) hx hb d_M_look_58 rfl hl (by decide) rfl (fun ls hl => ?_)
        obtain ⟨n5, hw⟩ := hw
        exact k_M_look_59 C0 hK hN hA ih n5 st v1 0 _ _ hP hD hS ls (lv_sub hl [1, 2, 0] rfl) hw
      · skip
        have hw := hw.2 c4
        refine lv_aload_n hx hb d_M_look_28 rfl (lv_at hl 0 rfl) ?_
        refine lv_aload_n hx hb d_M_look_29 rfl (lv_at hl 0 rfl) ?_
        refine va_get (D := (dC, dI)) (ci := 2) (v := .ref (h 1)) (C := RM) (T := TM) (N := 15) hx hb hts i_M hown hK hP 0 rfl rfl 2 (by decide) (hts _ m_378) (fun _ h9 => h9) rfl d_M_look_30 ?_
        refine lv_iconst (v := 3) hx hb d_M_look_33 (by decide) ?_
        refine lv_iload_n hx hb d_M_look_34 rfl (lv_at hl 1 rfl) ?_
        refine lv_imul hx hb d_M_look_35 ?_
        refine lv_iconst (v := 2) hx hb d_M_look_36 (by decide) ?_
        refine lv_iadd hx hb d_M_look_37 ?_
        obtain ⟨h6, hw⟩ := hw
        refine va_iald hx hb hK hP 1 0 rfl rfl h6 d_M_look_38 ?_
        refine lv_ineg hx hb d_M_look_39 ?_
        refine lv_i2l (v := (-((MS.num st) ((3 * v1) + 2).toNatClampNeg)).toInt64) hx hb d_M_look_40 rfl ?_
        refine lv_aload_n hx hb d_M_look_41 rfl (lv_at hl 0 rfl) ?_
        refine va_get (D := (dC, dI)) (ci := 2) (v := .ref (h 1)) (C := RM) (T := TM) (N := 15) hx hb hts i_M hown hK hP 0 rfl rfl 2 (by decide) (hts _ m_378) (fun _ h9 => h9) rfl d_M_look_42 ?_
        refine lv_iconst (v := 3) hx hb d_M_look_45 (by decide) ?_
        refine lv_iload_n hx hb d_M_look_46 rfl (lv_at hl 1 rfl) ?_
        refine lv_imul hx hb d_M_look_47 ?_
        obtain ⟨h7, hw⟩ := hw
        refine va_iald hx hb hK hP 1 0 rfl rfl h7 d_M_look_48 ?_
        refine lv_i2l (v := ((MS.num st) (3 * v1).toNatClampNeg).toInt64) hx hb d_M_look_49 rfl ?_
        have hFc := va_freeA hD hS hA
        refine va_callv (va_runV (As := [.long ((-((MS.num st) ((3 * v1) + 2).toNatClampNeg)).toInt64), .long (((MS.num st) (3 * v1).toNatClampNeg).toInt64)]) (rest := []) ⟨hx, hb, hml, hown, hts⟩ (t_M_lowest l dC dI h k _ st ((-((MS.num st) ((3 * v1) + 2).toNatClampNeg)).toInt64) (((MS.num st) (3 * v1).toNatClampNeg).toInt64) hw) (cwV 2 hts (gV m_439 m_441 s_17 m_5 (cw_call m_442)) rfl rfl rfl (by decide +kernel) ⟨Nat.le_of_ble_eq_true rfl, Nat.le_of_ble_eq_true rfl⟩) ⟨pRw_bl, va_recv hK hP (ci := 2) (q0 := 0) rfl rfl, fun U hU hW => ⟨rfl, pRw_at hP hK hN hD hU hW⟩⟩ rfl rfl hl.1 rfl (lv_room (Nat.le_of_ble_eq_true rfl)) d_M_look_50 ⟨Nat.le_of_ble_eq_true rfl, Nat.le_of_ble_eq_true rfl⟩) hS (fun q _ h => hFc q h) hFc (fun u8 t H1 locs ht hvm hw hB hz1 hk1 hS => ?_)
        obtain ⟨hP1, hD1⟩ := hB
        rw [ht] at hP1
        have hP := hP1
        have hD := hD1.weaken (fun _ q _ h => hFc q.1 h)
        generalize H1 = H at hP hS ⊢
        have hP : va_P (dC, dI) vwCl (WM h k u8) H := hP
        have hD : va_D A (WM h k u8) := hD
        refine lv_aload_n hx hb d_M_look_53 rfl (lv_at hl 0 rfl) ?_
        have hFc := va_freeA hD hS hA
        refine va_callv (va_runV (As := []) (rest := []) ⟨hx, hb, hml, hown, hts⟩ (t_M_keepCut l dC dI h k _ u8  hw) (cwV 0 hts (gV m_443 m_445 s_18 m_5 (cw_call m_446)) rfl rfl rfl (by decide +kernel) ⟨Nat.le_of_ble_eq_true rfl, Nat.le_of_ble_eq_true rfl⟩) ⟨pRw_bl, va_recv hK hP (ci := 2) (q0 := 0) rfl rfl, fun U hU hW => ⟨rfl, pRw_at hP hK hN hD hU hW⟩⟩ rfl rfl hl.1 rfl (lv_room (Nat.le_of_ble_eq_true rfl)) d_M_look_54 ⟨Nat.le_of_ble_eq_true rfl, Nat.le_of_ble_eq_true rfl⟩) hS (fun q _ h => hFc q h) hFc (fun u9 t H1 locs ht hvm hw hB hz1 hk1 hS => ?_)
        obtain ⟨hP1, hD1⟩ := hB
        rw [ht] at hP1
        have hP := hP1
        have hD := hD1.weaken (fun _ q _ h => hFc q.1 h)
        generalize H1 = H at hP hS ⊢
        have hP : va_P (dC, dI) vwCl (WM h k u9) H := hP
        have hD : va_D A (WM h k u9) := hD
        refine lv_iconst (v := 0) hx hb d_M_look_57 (by decide) ?_
        refine lv_istore_n (lv' := [(2, .int 0), (0, .ref (h 0)), (1, .int v1)]) hx hb d_M_look_58 rfl hl (by decide) rfl (fun ls hl => ?_)
        obtain ⟨n10, hw⟩ := hw
        exact k_M_look_59 C0 hK hN hA ih n10 u9 v1 0 _ _ hP hD hS ls (lv_sub hl [1, 2, 0] rfl) hw
def w_M_look (st : MS) (post : MS → Prop) : Prop := ∃ z, w_M_look_7 post z ((MS.code st), (MS.lines st), (MS.num st), 0, (MS.cu st), (MS.cd st), (MS.curves st), (MS.yu st), (MS.yd st), (MS.up st), (MS.down st), (MS.xu st), (MS.xd st), (MS.strip st), (MS.place st)) 0
set_option maxHeartbeats 4000000 in
set_option maxRecDepth 100000 in
theorem t_M_look (l : Launch) (dC : Nat → ClassId) (dI : Nat → Nat → Nat) (h : Nat → Nat) (k : Nat → ClassId) (sz : Nat) (st : MS) {post : MS → Prop} (hw : w_M_look st post) : Met l y_M_look (Cond.code y_M_look prog_4_method_9_code 4 none :: cw) ({ frames := 1, cells := 0, slots := 0, locals := 30 } : Room) (va_Pc [.ref (h 0)] (pRw (dC, dI) (WM h k st) (YM k) sz)) (va_Qv post (fun u t => va_P (dC, dI) vwCl (WM h k u) t.heap ∧ va_D (va_A (WM h k st) sz) (WM h k u)) (va_A (WM h k st) sz)) 0 0 (va_A (WM h k st) sz) := by
  refine Met.ofW (cc := prog_4_method_9_code) (maxL := 4) (ret := none) (by decide) rfl ?_
  intro p e s m args below meth c s₁ B hml hv
  obtain ⟨rfl, hsz, hP, hK, hN, hD0⟩ := hv
  have hx := B.exec
  have hb := B.bytes
  have hr := B.returns
  have hts : ∀ w ∈ cw, w.before _ s = true := fun w h => atoms_spec (ws := (Cond.code y_M_look prog_4_method_9_code 4 none :: cw)) B.pre w (List.mem_cons_of_mem _ h)
  have hown : s.vm.findClass RM = some m.cls := findClass_of_methodNamed B.named
  have hlocks := B.notSynchronized
  have C0 : cxt p s m _ meth c prog_4_method_9_code 4 RM none := ⟨hx, hb, hr, hml, hown, hts, hlocks⟩
  subst hsz
  have hD := hD0.self (sz := s.heap.size)
  generalize hAe : va_A (WM h k st) s.heap.size = A at hD ⊢
  have hA : ∀ q : Nat, s.heap.size ≤ q → A q := fun q h => by rw [← hAe]; exact Or.inr h
  have hS : va_S A s.heap s.heap [] := va_S.rf
  have hl := lv_entry ([.ref (h 0)]) (n := 4) (Nat.le_of_ble_eq_true rfl)
  rw [lg_entry_eq]
  generalize (lg_sl ([.ref (h 0)]) ++ List.replicate (4 - (lg_sl ([.ref (h 0)])).length) Slot.unset).toArray = ls at hl ⊢
  have hl : lv_has ls 4 [(0, .ref (h 0))] := hl
  unfold w_M_look at hw
  refine lv_aload_n hx hb d_M_look_0 rfl (lv_at hl 0 rfl) ?_
  refine lv_iconst (v := 0) hx hb d_M_look_1 (by decide) ?_
  refine va_put (D := (dC, dI)) (ci := 2) (v := .int 0) (ty := .int) (C := RM) (T := TM) (N := 15) hx hb hts i_M tyM tyM_ok nmM hown hK hP hD hS 0 rfl rfl 3 (by decide) (hts _ m_379) (fun _ h9 => h9) rfl (by decide +kernel) rfl rfl (Nat.le_of_ble_eq_true rfl) d_M_look_2 (fun H locs hP hD hS => ?_)
  have hP : va_P (dC, dI) vwCl [(h 0, .inr (2, [.int (MS.code st), .int (MS.lines st), .ref (h 1), .int 0, .ref (h 2), .ref (h 3), .int (MS.curves st), .ref (h 4), .ref (h 5), .long (MS.up st), .long (MS.down st), .long (MS.xu st), .long (MS.xd st), .int (MS.strip st), .int (MS.place st)])), (h 1, .inl (k 1, 18, .inl (MS.num st))), (h 2, .inl (k 2, 24, .inr (.inl (MS.cu st)))), (h 3, .inl (k 3, 24, .inr (.inl (MS.cd st)))), (h 4, .inl (k 4, 6, .inr (.inl (MS.yu st)))), (h 5, .inl (k 5, 6, .inr (.inl (MS.yd st))))] H := hP
  have hD : va_D A [(h 0, .inr (2, [.int (MS.code st), .int (MS.lines st), .ref (h 1), .int 0, .ref (h 2), .ref (h 3), .int (MS.curves st), .ref (h 4), .ref (h 5), .long (MS.up st), .long (MS.down st), .long (MS.xu st), .long (MS.xd st), .int (MS.strip st), .int (MS.place st)])), (h 1, .inl (k 1, 18, .inl (MS.num st))), (h 2, .inl (k 2, 24, .inr (.inl (MS.cu st)))), (h 3, .inl (k 3, 24, .inr (.inl (MS.cd st)))), (h 4, .inl (k 4, 6, .inr (.inl (MS.yu st)))), (h 5, .inl (k 5, 6, .inr (.inl (MS.yd st))))] := hD
  refine lv_iconst (v := 0) hx hb d_M_look_5 (by decide) ?_
  refine lv_istore_n (lv' := [(1, .int 0), (0, .ref (h 0))]) hx hb d_M_look_6 rfl hl (by decide) rfl (fun ls hl => ?_)
  have hP : va_P (dC, dI) vwCl (WM h k ((MS.code st), (MS.lines st), (MS.num st), 0, (MS.cu st), (MS.cd st), (MS.curves st), (MS.yu st), (MS.yd st), (MS.up st), (MS.down st), (MS.xu st), (MS.xd st), (MS.strip st), (MS.place st))) _ := hP
  have hD : va_D A (WM h k ((MS.code st), (MS.lines st), (MS.num st), 0, (MS.cu st), (MS.cd st), (MS.curves st), (MS.yu st), (MS.yd st), (MS.up st), (MS.down st), (MS.xu st), (MS.xd st), (MS.strip st), (MS.place st))) := hD
  obtain ⟨n1, hw⟩ := hw
  exact k_M_look_7 C0 hK hN hA n1 ((MS.code st), (MS.lines st), (MS.num st), 0, (MS.cu st), (MS.cd st), (MS.curves st), (MS.yu st), (MS.yd st), (MS.up st), (MS.down st), (MS.xu st), (MS.xd st), (MS.strip st), (MS.place st)) 0 _ _ hP hD hS ls (lv_sub hl [1, 0] rfl) hw
