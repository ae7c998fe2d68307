def w_JL_compare (post : Int32 → Prop) (p0 : Int64) (p1 : Int64) : Prop := (p1 ≤ p0 → ((¬ p0 = p1 → (post 1)) ∧ (p0 = p1 → (post 0)))) ∧ (¬ p1 ≤ p0 → (post (-1)))
set_option maxHeartbeats 4000000 in
set_option maxRecDepth 100000 in
theorem t_JL_compare (l : Launch) (p0 : Int64) (p1 : Int64) {post : Int32 → Prop} (hw : w_JL_compare post p0 p1) : Met l y_JL_compare (Cond.code y_JL_compare prog_9_method_42_code 4 (some .int) :: cw) ({ frames := 0, cells := 0, slots := 0, locals := 0 } : Room) (va_Pc [.long p0, .long p1] (fun _ => True)) (vp_Si post) 0 0 (fun _ => False) := by
  refine Met.ofW (cc := prog_9_method_42_code) (maxL := 4) (ret := (some .int)) (by decide) rfl ?_
  intro p e s m args below meth c s₁ B hml hv
  obtain ⟨rfl, -⟩ := hv
  have hx := B.exec
  have hb := B.bytes
  have hr := B.returns
  have hts : ∀ w ∈ cw, w.before _ s = true := fun w h => atoms_spec (ws := (Cond.code y_JL_compare prog_9_method_42_code 4 (some .int) :: cw)) B.pre w (List.mem_cons_of_mem _ h)
  have hown : s.vm.findClass RJL = some m.cls := findClass_of_methodNamed B.named
  have hlocks := B.notSynchronized
  have C0 : cxt p s m _ meth c prog_9_method_42_code 4 RJL (some .int) := ⟨hx, hb, hr, hml, hown, hts, hlocks⟩
  have hl := lv_entry ([.long p0, .long p1]) (n := 4) (Nat.le_of_ble_eq_true rfl)
  rw [lg_entry_eq]
  generalize (lg_sl ([.long p0, .long p1]) ++ List.replicate (4 - (lg_sl ([.long p0, .long p1])).length) Slot.unset).toArray = ls at hl ⊢
  have hl : lv_has ls 4 [(0, .long p0), (2, .long p1)] := hl
  unfold w_JL_compare at hw
  refine lv_lload_n hx hb d_JL_compare_0 rfl (lv_at hl 0 rfl) ?_
  refine lv_lload_n hx hb d_JL_compare_1 rfl (lv_at hl 1 rfl) ?_
  refine W.lcmp hx hb d_JL_compare_2 ?_
  refine lv_if_ge (tgt := 10) hx hb d_JL_compare_3 (by decide) (fun c1 => ?_) (fun c1 => ?_)
  · have c1 : p1 ≤ p0 := (lgc_ge.mp c1)
    have hw := hw.1 c1
    refine lv_lload_n hx hb d_JL_compare_10 rfl (lv_at hl 0 rfl) ?_
    refine lv_lload_n hx hb d_JL_compare_11 rfl (lv_at hl 1 rfl) ?_
    refine W.lcmp hx hb d_JL_compare_12 ?_
    refine lv_if_ne (tgt := 20) hx hb d_JL_compare_13 (by decide) (fun c2 => ?_) (fun c2 => ?_)
    · have c2 : ¬ p0 = p1 := (fun q => c2 (lgc_eq.mpr q))
      have hw := hw.1 c2
      refine lv_iconst (v := 1) hx hb d_JL_compare_20 (by decide) ?_
      exact W.iret (v := 1) hx hb hr (fun t ht hW => ⟨1, rfl, hw, ht⟩) (fun _ h => by cases h) d_JL_compare_21
    · have c2 : p0 = p1 := (lgc_eq.mp c2)
      have hw := hw.2 c2
      refine lv_iconst (v := 0) hx hb d_JL_compare_16 (by decide) ?_
      refine lv_goto (tgt := 21) hx hb d_JL_compare_17 (by decide) ?_
      exact W.iret (v := 0) hx hb hr (fun t ht hW => ⟨0, rfl, hw, ht⟩) (fun _ h => by cases h) d_JL_compare_21
  · have c1 : ¬ p1 ≤ p0 := (fun q => c1 (lgc_ge.mpr q))
    have hw := hw.2 c1
    refine lv_iconst (v := (-1)) hx hb d_JL_compare_6 (by decide) ?_
    refine lv_goto (tgt := 21) hx hb d_JL_compare_7 (by decide) ?_
    exact W.iret (v := (-1)) hx hb hr (fun t ht hW => ⟨(-1), rfl, hw, ht⟩) (fun _ h => by cases h) d_JL_compare_21
def w_K_commonDivisor_9 (post : Int64 → Prop) : Nat → Int64 → Int64 → Int32 → Prop
  | 0, _, _, _ => False
  | n + 1, v4, v6, v8 => (100 ≤ v8 → (post (if 1 < v4 then v4 else 1))) ∧ (¬ 100 ≤ v8 → ((v6 = 0 → (post (if 1 < v4 then v4 else 1))) ∧ (¬ v6 = 0 → (¬ v6 = 0 ∧ (∀ y5 : Int64, y5 = (v4 - v4 / v6 * v6) → (w_K_commonDivisor_9 post n v6 y5 (v8 + 1)))))))
set_option maxHeartbeats 4000000 in
set_option maxRecDepth 100000 in
theorem k_K_commonDivisor_9 {p : Program} {l : Launch} {e : Env} {s : State} {m : MethodId} {args : Array Value} {below : List Frame} {meth : Method} {c : Code} {post : Int64 → Prop} (C0 : cxt p s m args meth c prog_2_method_6_code 11 RK (some .long)) : ∀ (n : Nat), ∀ (v4 : Int64) (v6 : Int64) (v8 : Int32), ∀ ls, lv_has ls 11 [(4, .long v4), (6, .long v6), (8, .int v8)] → w_K_commonDivisor_9 post n v4 v6 v8 → W p l e ({ frames := 1, cells := 0, slots := 0, locals := 23 } : Room) s m args below meth c s.heap [] 0 0 (MQ below (vp_Sl post) args s 0 0 (fun _ => False)) (F0 m 9 ls []) := by
  obtain ⟨hx, hb, hr, hml, hown, hts, hlocks⟩ := id C0
  intro n
  induction n with
  | zero =>
    intro v4 v6 v8 ls hl hw
    exact False.elim hw
  | succ n ih =>
    intro v4 v6 v8 ls hl hw
    rw [w_K_commonDivisor_9] at hw
    refine lv_iload hx hb d_K_commonDivisor_9 (lv_at hl 2 rfl) ?_
    refine lv_bipush (v := 100) hx hb d_K_commonDivisor_11 (by decide) ?_
    refine lv_icmp_ge (tgt := 44) hx hb d_K_commonDivisor_13 (by decide) (fun c2 => ?_) (fun c2 => ?_)
    · skip
      have hw := hw.1 c2
      refine lv_lload hx hb d_K_commonDivisor_44 (lv_at hl 0 rfl) ?_
      refine lv_lconst (v := 1) hx hb d_K_commonDivisor_46 (by decide) ?_
      refine va_mmax_long hx hb (hml.trans hl.1.symm) hown (hts _ m_85) (hts _ m_86) (hts _ m_4) (hts _ m_87) (Nat.le_of_ble_eq_true rfl) (Nat.le_of_ble_eq_true rfl) (Nat.le_of_ble_eq_true rfl) (Nat.le_of_ble_eq_true rfl) d_K_commonDivisor_47 ?_
      exact W.lret (v := (if 1 < v4 then v4 else 1)) hx hb hr (fun t ht hW => ⟨(if 1 < v4 then v4 else 1), rfl, hw, ht⟩) (fun _ h => by cases h) d_K_commonDivisor_50
    · skip
      have hw := hw.2 c2
      refine lv_lload hx hb d_K_commonDivisor_16 (lv_at hl 1 rfl) ?_
      refine lv_lconst (v := 0) hx hb d_K_commonDivisor_18 (by decide) ?_
      refine W.lcmp hx hb d_K_commonDivisor_19 ?_
      refine lv_if_eq (tgt := 44) hx hb d_K_commonDivisor_20 (by decide) (fun c3 => ?_) (fun c3 => ?_)
      · have c3 : v6 = 0 := (lgc_eq.mp c3)
        have hw := hw.1 c3
        refine lv_lload hx hb d_K_commonDivisor_44 (lv_at hl 0 rfl) ?_
        refine lv_lconst (v := 1) hx hb d_K_commonDivisor_46 (by decide) ?_
        refine va_mmax_long hx hb (hml.trans hl.1.symm) hown (hts _ m_85) (hts _ m_86) (hts _ m_4) (hts _ m_87) (Nat.le_of_ble_eq_true rfl) (Nat.le_of_ble_eq_true rfl) (Nat.le_of_ble_eq_true rfl) (Nat.le_of_ble_eq_true rfl) d_K_commonDivisor_47 ?_
        exact W.lret (v := (if 1 < v4 then v4 else 1)) hx hb hr (fun t ht hW => ⟨(if 1 < v4 then v4 else 1), rfl, hw, ht⟩) (fun _ h => by cases h) d_K_commonDivisor_50
      · have c3 : ¬ v6 = 0 := (fun q => c3 (lgc_eq.mpr q))
        have hw := hw.2 c3
        refine lv_lload hx hb d_K_commonDivisor_23 (lv_at hl 0 rfl) ?_
        refine lv_lload hx hb d_K_commonDivisor_25 (lv_at hl 1 rfl) ?_
        obtain ⟨h4, hw⟩ := hw
        refine lv_lrem hx hb d_K_commonDivisor_27 h4 ?_
        refine lv_topl (fun y5 ey5 => ?_)
        have hw := hw y5 ey5
        refine lv_lstore (lv' := [(9, .long y5), (4, .long v4), (6, .long v6), (8, .int v8)]) hx hb d_K_commonDivisor_28 hl (by decide) rfl (fun ls hl => ?_)
        refine lv_lload hx hb d_K_commonDivisor_30 (lv_at hl 2 rfl) ?_
        refine lv_lstore (lv' := [(4, .long v6), (9, .long y5), (6, .long v6), (8, .int v8)]) hx hb d_K_commonDivisor_32 hl (by decide) rfl (fun ls hl => ?_)
        refine lv_lload hx hb d_K_commonDivisor_34 (lv_at hl 1 rfl) ?_
        refine lv_lstore (lv' := [(6, .long y5), (4, .long v6), (9, .long y5), (8, .int v8)]) hx hb d_K_commonDivisor_36 hl (by decide) rfl (fun ls hl => ?_)
        refine lv_iinc (v := (v8 + 1)) (lv' := [(8, .int (v8 + 1)), (6, .long y5), (4, .long v6), (9, .long y5)]) hx hb d_K_commonDivisor_38 hl (k := 3) rfl rfl (by decide) rfl (fun ls hl => ?_)
        refine lv_goto (tgt := 9) hx hb d_K_commonDivisor_41 (by decide) ?_
        exact ih v6 y5 (v8 + 1) ls (lv_sub hl [2, 1, 0] rfl) hw
def w_K_commonDivisor (post : Int64 → Prop) (p0 : Int64) (p1 : Int64) : Prop := ∃ z, w_K_commonDivisor_9 post z p0 p1 0
set_option maxHeartbeats 4000000 in
set_option maxRecDepth 100000 in
theorem t_K_commonDivisor (l : Launch) (p0 : Int64) (p1 : Int64) {post : Int64 → Prop} (hw : w_K_commonDivisor post p0 p1) : Met l y_K_commonDivisor (Cond.code y_K_commonDivisor prog_2_method_6_code 11 (some .long) :: cw) ({ frames := 1, cells := 0, slots := 0, locals := 23 } : Room) (va_Pc [.long p0, .long p1] (fun _ => True)) (vp_Sl post) 0 0 (fun _ => False) := by
  refine Met.ofW (cc := prog_2_method_6_code) (maxL := 11) (ret := (some .long)) (by decide) rfl ?_
  intro p e s m args below meth c s₁ B hml hv
  obtain ⟨rfl, -⟩ := hv
  have hx := B.exec
  have hb := B.bytes
  have hr := B.returns
  have hts : ∀ w ∈ cw, w.before _ s = true := fun w h => atoms_spec (ws := (Cond.code y_K_commonDivisor prog_2_method_6_code 11 (some .long) :: cw)) B.pre w (List.mem_cons_of_mem _ h)
  have hown : s.vm.findClass RK = some m.cls := findClass_of_methodNamed B.named
  have hlocks := B.notSynchronized
  have C0 : cxt p s m _ meth c prog_2_method_6_code 11 RK (some .long) := ⟨hx, hb, hr, hml, hown, hts, hlocks⟩
  have hl := lv_entry ([.long p0, .long p1]) (n := 11) (Nat.le_of_ble_eq_true rfl)
  rw [lg_entry_eq]
  generalize (lg_sl ([.long p0, .long p1]) ++ List.replicate (11 - (lg_sl ([.long p0, .long p1])).length) Slot.unset).toArray = ls at hl ⊢
  have hl : lv_has ls 11 [(0, .long p0), (2, .long p1)] := hl
  unfold w_K_commonDivisor at hw
  refine lv_lload_n hx hb d_K_commonDivisor_0 rfl (lv_at hl 0 rfl) ?_
  refine lv_lstore (lv' := [(4, .long p0), (0, .long p0), (2, .long p1)]) hx hb d_K_commonDivisor_1 hl (by decide) rfl (fun ls hl => ?_)
  refine lv_lload_n hx hb d_K_commonDivisor_3 rfl (lv_at hl 2 rfl) ?_
  refine lv_lstore (lv' := [(6, .long p1), (4, .long p0), (0, .long p0), (2, .long p1)]) hx hb d_K_commonDivisor_4 hl (by decide) rfl (fun ls hl => ?_)
  refine lv_iconst (v := 0) hx hb d_K_commonDivisor_6 (by decide) ?_
  refine lv_istore (lv' := [(8, .int 0), (6, .long p1), (4, .long p0), (0, .long p0), (2, .long p1)]) hx hb d_K_commonDivisor_7 hl (by decide) rfl (fun ls hl => ?_)
  obtain ⟨n1, hw⟩ := hw
  exact k_K_commonDivisor_9 C0 n1 p0 p1 0 ls (lv_sub hl [2, 1, 0] rfl) hw
def w_K_reduced (post : Int64 → Prop) (p0 : Int64) (p1 : Int64) (p2 : Int32) : Prop := w_K_commonDivisor (fun r1 => ((¬ p2 = 0 → (¬ r1 = 0 ∧ (post (p1 / r1)))) ∧ (p2 = 0 → (¬ r1 = 0 ∧ (post (p0 / r1)))))) (if 0 < p0 then p0 else -p0) p1
set_option maxHeartbeats 4000000 in
set_option maxRecDepth 100000 in
theorem t_K_reduced (l : Launch) (p0 : Int64) (p1 : Int64) (p2 : Int32) {post : Int64 → Prop} (hw : w_K_reduced post p0 p1 p2) : Met l y_K_reduced (Cond.code y_K_reduced prog_2_method_5_code 7 (some .long) :: cw) ({ frames := 2, cells := 0, slots := 0, locals := 53 } : Room) (va_Pc [.long p0, .long p1, .int p2] (fun _ => True)) (vp_Sl post) 0 0 (fun _ => False) := by
  refine Met.ofW (cc := prog_2_method_5_code) (maxL := 7) (ret := (some .long)) (by decide) rfl ?_
  intro p e s m args below meth c s₁ B hml hv
  obtain ⟨rfl, -⟩ := hv
  have hx := B.exec
  have hb := B.bytes
  have hr := B.returns
  have hts : ∀ w ∈ cw, w.before _ s = true := fun w h => atoms_spec (ws := (Cond.code y_K_reduced prog_2_method_5_code 7 (some .long) :: cw)) B.pre w (List.mem_cons_of_mem _ h)
  have hown : s.vm.findClass RK = some m.cls := findClass_of_methodNamed B.named
  have hlocks := B.notSynchronized
  have C0 : cxt p s m _ meth c prog_2_method_5_code 7 RK (some .long) := ⟨hx, hb, hr, hml, hown, hts, hlocks⟩
  have hl := lv_entry ([.long p0, .long p1, .int p2]) (n := 7) (Nat.le_of_ble_eq_true rfl)
  rw [lg_entry_eq]
  generalize (lg_sl ([.long p0, .long p1, .int p2]) ++ List.replicate (7 - (lg_sl ([.long p0, .long p1, .int p2])).length) Slot.unset).toArray = ls at hl ⊢
  have hl : lv_has ls 7 [(0, .long p0), (2, .long p1), (4, .int p2)] := hl
  unfold w_K_reduced at hw
  refine lv_lload_n hx hb d_K_reduced_0 rfl (lv_at hl 0 rfl) ?_
  refine va_mabs_long hx hb (hml.trans hl.1.symm) hown (hts _ m_79) (hts _ m_80) (hts _ m_4) (hts _ m_81) (Nat.le_of_ble_eq_true rfl) (Nat.le_of_ble_eq_true rfl) (Nat.le_of_ble_eq_true rfl) (Nat.le_of_ble_eq_true rfl) d_K_reduced_1 ?_
  refine lv_lload_n hx hb d_K_reduced_4 rfl (lv_at hl 1 rfl) ?_
  refine vp_callSl (va_Run.run (va_runS (As := [.long (if 0 < p0 then p0 else -p0), .long p1]) (rest := []) ⟨hx, hb, hml, hown, hts⟩ (t_K_commonDivisor l (if 0 < p0 then p0 else -p0) p1 hw) (va_cwS 2 hts (gS m_82 m_83 m_2 (cw_call m_84)) rfl rfl rfl (by decide +kernel) ⟨Nat.le_of_ble_eq_true rfl, Nat.le_of_ble_eq_true rfl⟩) ⟨pSt_bl, fun U hU hW => ⟨rfl, trivial⟩⟩ rfl rfl hl.1 rfl (lv_room (Nat.le_of_ble_eq_true rfl)) d_K_reduced_5 ⟨Nat.le_of_ble_eq_true rfl, Nat.le_of_ble_eq_true rfl⟩)) (fun r1 hw => ?_)
  refine lv_lstore (lv' := [(5, .long r1), (0, .long p0), (2, .long p1), (4, .int p2)]) hx hb d_K_reduced_8 hl (by decide) rfl (fun ls hl => ?_)
  refine lv_iload hx hb d_K_reduced_10 (lv_at hl 3 rfl) ?_
  refine lv_if_ne (tgt := 19) hx hb d_K_reduced_12 (by decide) (fun c2 => ?_) (fun c2 => ?_)
  · skip
    have hw := hw.1 c2
    refine lv_lload_n hx hb d_K_reduced_19 rfl (lv_at hl 2 rfl) ?_
    refine lv_lload hx hb d_K_reduced_20 (lv_at hl 0 rfl) ?_
    obtain ⟨h3, hw⟩ := hw
    refine lv_ldiv hx hb d_K_reduced_22 h3 ?_
    exact W.lret (v := (p1 / r1)) hx hb hr (fun t ht hW => ⟨(p1 / r1), rfl, hw, ht⟩) (fun _ h => by cases h) d_K_reduced_23
  · skip
    have hw := hw.2 c2
    refine lv_lload_n hx hb d_K_reduced_15 rfl (lv_at hl 1 rfl) ?_
    refine lv_goto (tgt := 20) hx hb d_K_reduced_16 (by decide) ?_
    refine lv_lload hx hb d_K_reduced_20 (lv_at hl 0 rfl) ?_
    obtain ⟨h4, hw⟩ := hw
    refine lv_ldiv hx hb d_K_reduced_22 h4 ?_
    exact W.lret (v := (p0 / r1)) hx hb hr (fun t ht hW => ⟨(p0 / r1), rfl, hw, ht⟩) (fun _ h => by cases h) d_K_reduced_23
def w_K_pieceOf_3 (st : KS) (post : Int32 → Prop) : Nat → Int64 → Int64 → Int32 → Prop
  | 0, _, _, _ => False
  | n + 1, v1, v3, v5 => ((KS.cnt st) ≤ v5 → (post (2 * (KS.cnt st)))) ∧ (¬ (KS.cnt st) ≤ v5 → (vp_in v5 15 ∧ (w_JL_compare (fun r4 => ((0 < r4 → (w_K_pieceOf_3 st post n v1 v3 (v5 + 1))) ∧ (¬ 0 < r4 → ((¬ r4 = 0 → (post (2 * v5))) ∧ (r4 = 0 → (post ((2 * v5) + 1))))))) (v1 * ((KS.dn st) v5.toNatClampNeg)) (((KS.up st) v5.toNatClampNeg) * v3))))
set_option maxHeartbeats 4000000 in
set_option maxRecDepth 100000 in
theorem k_K_pieceOf_3 {p : Program} {l : Launch} {e : Env} {s : State} {m : MethodId} {args : Array Value} {below : List Frame} {meth : Method} {c : Code} {dC : Nat → ClassId} {dI : Nat → Nat → Nat} {h : Nat → Nat} {k : Nat → ClassId} {st : KS} {post : Int32 → Prop} (C0 : cxt p s m args meth c prog_2_method_3_code 7 RK (some .int)) (hK : va_K (dC, dI) vwCl (YK k) s) (hN : va_Nw nestW s) (hP : va_P (dC, dI) vwCl (WK h k st) s.heap) : ∀ (n : Nat), ∀ (v1 : Int64) (v3 : Int64) (v5 : Int32), ∀ ls, lv_has ls 7 [(0, .ref (h 0)), (1, .long v1), (3, .long v3), (5, .int v5)] → w_K_pieceOf_3 st post n v1 v3 v5 → W p l e ({ frames := 1, cells := 0, slots := 0, locals := 23 } : Room) s m args below meth c s.heap [] 0 0 (MQ below (vp_Si post) args s 0 0 (fun _ => False)) (F0 m 3 ls []) := by
  obtain ⟨hx, hb, hr, hml, hown, hts, hlocks⟩ := id C0
  intro n
  induction n with
  | zero =>
    intro v1 v3 v5 ls hl hw
    exact False.elim hw
  | succ n ih =>
    intro v1 v3 v5 ls hl hw
    rw [w_K_pieceOf_3] at hw
    refine lv_iload hx hb d_K_pieceOf_3 (lv_at hl 3 rfl) ?_
    refine lv_aload_n hx hb d_K_pieceOf_5 rfl (lv_at hl 0 rfl) ?_
    refine va_get (D := (dC, dI)) (ci := 0) (v := .int (KS.cnt st)) (C := RK) (T := TK) (N := 3) hx hb hts i_K hown hK hP 0 rfl rfl 2 (by decide) (hts _ m_28) (fun _ h9 => h9) rfl d_K_pieceOf_6 ?_
    refine lv_icmp_ge (tgt := 65) hx hb d_K_pieceOf_9 (by decide) (fun c2 => ?_) (fun c2 => ?_)
    · skip
      have hw := hw.1 c2
      refine lv_iconst (v := 2) hx hb d_K_pieceOf_65 (by decide) ?_
      refine lv_aload_n hx hb d_K_pieceOf_66 rfl (lv_at hl 0 rfl) ?_
      refine va_get (D := (dC, dI)) (ci := 0) (v := .int (KS.cnt st)) (C := RK) (T := TK) (N := 3) hx hb hts i_K hown hK hP 0 rfl rfl 2 (by decide) (hts _ m_28) (fun _ h9 => h9) rfl d_K_pieceOf_67 ?_
      refine lv_imul hx hb d_K_pieceOf_70 ?_
      exact W.iret (v := (2 * (KS.cnt st))) hx hb hr (fun t ht hW => ⟨(2 * (KS.cnt st)), rfl, hw, ht⟩) (fun _ h => by cases h) d_K_pieceOf_71
    · skip
      have hw := hw.2 c2
      refine lv_lload_n hx hb d_K_pieceOf_12 rfl (lv_at hl 1 rfl) ?_
      refine lv_aload_n hx hb d_K_pieceOf_13 rfl (lv_at hl 0 rfl) ?_
      refine va_get (D := (dC, dI)) (ci := 0) (v := .ref (h 2)) (C := RK) (T := TK) (N := 3) hx hb hts i_K hown hK hP 0 rfl rfl 1 (by decide) (hts _ m_27) (fun _ h9 => h9) rfl d_K_pieceOf_14 ?_
      refine lv_iload hx hb d_K_pieceOf_17 (lv_at hl 3 rfl) ?_
      obtain ⟨h3, hw⟩ := hw
      refine va_lald hx hb hK hP 2 1 rfl rfl h3 d_K_pieceOf_19 ?_
      refine lv_lmul hx hb d_K_pieceOf_20 ?_
      refine lv_aload_n hx hb d_K_pieceOf_21 rfl (lv_at hl 0 rfl) ?_
      refine va_get (D := (dC, dI)) (ci := 0) (v := .ref (h 1)) (C := RK) (T := TK) (N := 3) hx hb hts i_K hown hK hP 0 rfl rfl 0 (by decide) (hts _ m_26) (fun _ h9 => h9) rfl d_K_pieceOf_22 ?_
      refine lv_iload hx hb d_K_pieceOf_25 (lv_at hl 3 rfl) ?_
      refine va_lald hx hb hK hP 1 0 rfl rfl h3 d_K_pieceOf_27 ?_
      refine lv_lload_n hx hb d_K_pieceOf_28 rfl (lv_at hl 2 rfl) ?_
      refine lv_lmul hx hb d_K_pieceOf_29 ?_
      refine vp_callSi (va_Run.run (va_runS (As := [.long (v1 * ((KS.dn st) v5.toNatClampNeg)), .long (((KS.up st) v5.toNatClampNeg) * v3)]) (rest := []) ⟨hx, hb, hml, hown, hts⟩ (t_JL_compare l (v1 * ((KS.dn st) v5.toNatClampNeg)) (((KS.up st) v5.toNatClampNeg) * v3) hw) (va_cwS 2 hts (gS m_61 m_62 m_3 (cw_call m_63)) rfl rfl rfl (by decide +kernel) ⟨Nat.le_of_ble_eq_true rfl, Nat.le_of_ble_eq_true rfl⟩) ⟨pSt_bl, fun U hU hW => ⟨rfl, trivial⟩⟩ rfl rfl hl.1 rfl (lv_room (Nat.le_of_ble_eq_true rfl)) d_K_pieceOf_30 ⟨Nat.le_of_ble_eq_true rfl, Nat.le_of_ble_eq_true rfl⟩)) (fun r4 hw => ?_)
      refine lv_istore (lv' := [(6, .int r4), (0, .ref (h 0)), (1, .long v1), (3, .long v3), (5, .int v5)]) hx hb d_K_pieceOf_33 hl (by decide) rfl (fun ls hl => ?_)
      refine lv_iload hx hb d_K_pieceOf_35 (lv_at hl 0 rfl) ?_
      refine lv_if_gt (tgt := 59) hx hb d_K_pieceOf_37 (by decide) (fun c5 => ?_) (fun c5 => ?_)
      · skip
        have hw := hw.1 c5
        refine lv_iinc (v := (v5 + 1)) (lv' := [(5, .int (v5 + 1)), (6, .int r4), (0, .ref (h 0)), (1, .long v1), (3, .long v3)]) hx hb d_K_pieceOf_59 hl (k := 4) rfl rfl (by decide) rfl (fun ls hl => ?_)
        refine lv_goto (tgt := 3) hx hb d_K_pieceOf_62 (by decide) ?_
        exact ih v1 v3 (v5 + 1) ls (lv_sub hl [2, 3, 4, 0] rfl) hw
      · skip
        have hw := hw.2 c5
        refine lv_iload hx hb d_K_pieceOf_40 (lv_at hl 0 rfl) ?_
        refine lv_if_ne (tgt := 54) hx hb d_K_pieceOf_42 (by decide) (fun c6 => ?_) (fun c6 => ?_)
        · skip
          have hw := hw.1 c6
          refine lv_iconst (v := 2) hx hb d_K_pieceOf_54 (by decide) ?_
          refine lv_iload hx hb d_K_pieceOf_55 (lv_at hl 4 rfl) ?_
          refine lv_imul hx hb d_K_pieceOf_57 ?_
          exact W.iret (v := (2 * v5)) hx hb hr (fun t ht hW => ⟨(2 * v5), rfl, hw, ht⟩) (fun _ h => by cases h) d_K_pieceOf_58
        · skip
          have hw := hw.2 c6
          refine lv_iconst (v := 2) hx hb d_K_pieceOf_45 (by decide) ?_
          refine lv_iload hx hb d_K_pieceOf_46 (lv_at hl 4 rfl) ?_
          refine lv_imul hx hb d_K_pieceOf_48 ?_
          refine lv_iconst (v := 1) hx hb d_K_pieceOf_49 (by decide) ?_
          refine lv_iadd hx hb d_K_pieceOf_50 ?_
          refine lv_goto (tgt := 58) hx hb d_K_pieceOf_51 (by decide) ?_
          exact W.iret (v := ((2 * v5) + 1)) hx hb hr (fun t ht hW => ⟨((2 * v5) + 1), rfl, hw, ht⟩) (fun _ h => by cases h) d_K_pieceOf_58
def w_K_pieceOf (st : KS) (post : Int32 → Prop) (p0 : Int64) (p1 : Int64) : Prop := ∃ z, w_K_pieceOf_3 st post z p0 p1 0
set_option maxHeartbeats 4000000 in
set_option maxRecDepth 100000 in
theorem t_K_pieceOf (l : Launch) (dC : Nat → ClassId) (dI : Nat → Nat → Nat) (h : Nat → Nat) (k : Nat → ClassId) (st : KS) (p0 : Int64) (p1 : Int64) {post : Int32 → Prop} (hw : w_K_pieceOf st post p0 p1) : Met l y_K_pieceOf (Cond.code y_K_pieceOf prog_2_method_3_code 7 (some .int) :: cw) ({ frames := 1, cells := 0, slots := 0, locals := 23 } : Room) (va_Pc [.ref (h 0), .long p0, .long p1] (pRo (dC, dI) (WK h k st) (YK k))) (vp_Si post) 0 0 (fun _ => False) := by
  refine Met.ofW (cc := prog_2_method_3_code) (maxL := 7) (ret := (some .int)) (by decide) rfl ?_
  intro p e s m args below meth c s₁ B hml hv
  obtain ⟨rfl, hP, hK, hN⟩ := hv
  have hx := B.exec
  have hb := B.bytes
  have hr := B.returns
  have hts : ∀ w ∈ cw, w.before _ s = true := fun w h => atoms_spec (ws := (Cond.code y_K_pieceOf prog_2_method_3_code 7 (some .int) :: cw)) B.pre w (List.mem_cons_of_mem _ h)
  have hown : s.vm.findClass RK = some m.cls := findClass_of_methodNamed B.named
  have hlocks := B.notSynchronized
  have C0 : cxt p s m _ meth c prog_2_method_3_code 7 RK (some .int) := ⟨hx, hb, hr, hml, hown, hts, hlocks⟩
  have hl := lv_entry ([.ref (h 0), .long p0, .long p1]) (n := 7) (Nat.le_of_ble_eq_true rfl)
  rw [lg_entry_eq]
  generalize (lg_sl ([.ref (h 0), .long p0, .long p1]) ++ List.replicate (7 - (lg_sl ([.ref (h 0), .long p0, .long p1])).length) Slot.unset).toArray = ls at hl ⊢
  have hl : lv_has ls 7 [(0, .ref (h 0)), (1, .long p0), (3, .long p1)] := hl
  unfold w_K_pieceOf at hw
  refine lv_iconst (v := 0) hx hb d_K_pieceOf_0 (by decide) ?_
  refine lv_istore (lv' := [(5, .int 0), (0, .ref (h 0)), (1, .long p0), (3, .long p1)]) hx hb d_K_pieceOf_1 hl (by decide) rfl (fun ls hl => ?_)
  obtain ⟨n1, hw⟩ := hw
  exact k_K_pieceOf_3 C0 hK hN hP n1 p0 p1 0 ls (lv_sub hl [1, 2, 3, 0] rfl) hw
def w_K_samplePart (st : KS) (post : Int64 → Prop) (p0 : Int32) (p1 : Int32) : Prop := (0 < (KS.cnt st) → ((0 < p0 → (∀ y3 : Int32, y3 = (p0 / 2) → ((y3 < (KS.cnt st) → ((¬ (p0 - p0 / 2 * 2) = 1 → (vp_in (y3 - 1) 15 ∧ (vp_in y3 15 ∧ (∀ y8 : Int64, y8 = ((((KS.up st) (y3 - 1).toNatClampNeg) * ((KS.dn st) y3.toNatClampNeg)) + (((KS.up st) y3.toNatClampNeg) * ((KS.dn st) (y3 - 1).toNatClampNeg))) → (w_K_reduced (fun r9 => (post r9)) y8 ((2 * ((KS.dn st) (y3 - 1).toNatClampNeg)) * ((KS.dn st) y3.toNatClampNeg)) p1))))) ∧ ((p0 - p0 / 2 * 2) = 1 → (vp_in y3 15 ∧ (w_K_reduced (fun r11 => (post r11)) ((KS.up st) y3.toNatClampNeg) ((KS.dn st) y3.toNatClampNeg) p1))))) ∧ (¬ y3 < (KS.cnt st) → (vp_in ((KS.cnt st) - 1) 15 ∧ (w_K_reduced (fun r13 => (post r13)) (((KS.up st) ((KS.cnt st) - 1).toNatClampNeg) + ((KS.dn st) ((KS.cnt st) - 1).toNatClampNeg)) ((KS.dn st) ((KS.cnt st) - 1).toNatClampNeg) p1)))))) ∧ (¬ 0 < p0 → (w_K_reduced (fun r14 => (post r14)) (((KS.up st) (0 : Int32).toNatClampNeg) - ((KS.dn st) (0 : Int32).toNatClampNeg)) ((KS.dn st) (0 : Int32).toNatClampNeg) p1)))) ∧ (¬ 0 < (KS.cnt st) → (w_K_reduced (fun r15 => (post r15)) (0 : Int64) (1 : Int64) p1))
set_option maxHeartbeats 4000000 in
set_option maxRecDepth 100000 in
theorem t_K_samplePart (l : Launch) (dC : Nat → ClassId) (dI : Nat → Nat → Nat) (h : Nat → Nat) (k : Nat → ClassId) (st : KS) (p0 : Int32) (p1 : Int32) {post : Int64 → Prop} (hw : w_K_samplePart st post p0 p1) : Met l y_K_samplePart (Cond.code y_K_samplePart prog_2_method_4_code 6 (some .long) :: cw) ({ frames := 3, cells := 0, slots := 0, locals := 79 } : Room) (va_Pc [.ref (h 0), .int p0, .int p1] (pRo (dC, dI) (WK h k st) (YK k))) (vp_Sl post) 0 0 (fun _ => False) := by
  refine Met.ofW (cc := prog_2_method_4_code) (maxL := 6) (ret := (some .long)) (by decide) rfl ?_
  intro p e s m args below meth c s₁ B hml hv
  obtain ⟨rfl, hP, hK, hN⟩ := hv
  have hx := B.exec
  have hb := B.bytes
  have hr := B.returns
  have hts : ∀ w ∈ cw, w.before _ s = true := fun w h => atoms_spec (ws := (Cond.code y_K_samplePart prog_2_method_4_code 6 (some .long) :: cw)) B.pre w (List.mem_cons_of_mem _ h)
  have hown : s.vm.findClass RK = some m.cls := findClass_of_methodNamed B.named
  have hlocks := B.notSynchronized
  have C0 : cxt p s m _ meth c prog_2_method_4_code 6 RK (some .long) := ⟨hx, hb, hr, hml, hown, hts, hlocks⟩
  have hl := lv_entry ([.ref (h 0), .int p0, .int p1]) (n := 6) (Nat.le_of_ble_eq_true rfl)
  rw [lg_entry_eq]
  generalize (lg_sl ([.ref (h 0), .int p0, .int p1]) ++ List.replicate (6 - (lg_sl ([.ref (h 0), .int p0, .int p1])).length) Slot.unset).toArray = ls at hl ⊢
  have hl : lv_has ls 6 [(0, .ref (h 0)), (1, .int p0), (2, .int p1)] := hl
  unfold w_K_samplePart at hw
  refine lv_aload_n hx hb d_K_samplePart_0 rfl (lv_at hl 0 rfl) ?_
  refine va_get (D := (dC, dI)) (ci := 0) (v := .int (KS.cnt st)) (C := RK) (T := TK) (N := 3) hx hb hts i_K hown hK hP 0 rfl rfl 2 (by decide) (hts _ m_28) (fun _ h9 => h9) rfl d_K_samplePart_1 ?_
  refine lv_if_gt (tgt := 14) hx hb d_K_samplePart_4 (by decide) (fun c1 => ?_) (fun c1 => ?_)
  · skip
    have hw := hw.1 c1
    refine lv_iload_n hx hb d_K_samplePart_14 rfl (lv_at hl 1 rfl) ?_
    refine lv_if_gt (tgt := 42) hx hb d_K_samplePart_15 (by decide) (fun c2 => ?_) (fun c2 => ?_)
    · skip
      have hw := hw.1 c2
      refine lv_iload_n hx hb d_K_samplePart_42 rfl (lv_at hl 1 rfl) ?_
      refine lv_iconst (v := 2) hx hb d_K_samplePart_43 (by decide) ?_
      refine lv_idiv hx hb d_K_samplePart_44 (by decide) ?_
      refine lv_topi (fun y3 ey3 => ?_)
      have hw := hw y3 ey3
      refine lv_istore_n (lv' := [(3, .int y3), (0, .ref (h 0)), (1, .int p0), (2, .int p1)]) hx hb d_K_samplePart_45 rfl hl (by decide) rfl (fun ls hl => ?_)
      refine lv_iload_n hx hb d_K_samplePart_46 rfl (lv_at hl 0 rfl) ?_
      refine lv_aload_n hx hb d_K_samplePart_47 rfl (lv_at hl 1 rfl) ?_
      refine va_get (D := (dC, dI)) (ci := 0) (v := .int (KS.cnt st)) (C := RK) (T := TK) (N := 3) hx hb hts i_K hown hK hP 0 rfl rfl 2 (by decide) (hts _ m_28) (fun _ h9 => h9) rfl d_K_samplePart_48 ?_
      refine lv_icmp_lt (tgt := 93) hx hb d_K_samplePart_51 (by decide) (fun c4 => ?_) (fun c4 => ?_)
      · skip
        have hw := hw.1 c4
        refine lv_iload_n hx hb d_K_samplePart_93 rfl (lv_at hl 2 rfl) ?_
        refine lv_iconst (v := 2) hx hb d_K_samplePart_94 (by decide) ?_
        refine lv_irem hx hb d_K_samplePart_95 (by decide) ?_
        refine lv_iconst (v := 1) hx hb d_K_samplePart_96 (by decide) ?_
        refine lv_icmp_ne (tgt := 117) hx hb d_K_samplePart_97 (by decide) (fun c5 => ?_) (fun c5 => ?_)
        · skip
          have hw := hw.1 c5
          refine lv_aload_n hx hb d_K_samplePart_117 rfl (lv_at hl 1 rfl) ?_
          refine va_get (D := (dC, dI)) (ci := 0) (v := .ref (h 1)) (C := RK) (T := TK) (N := 3) hx hb hts i_K hown hK hP 0 rfl rfl 0 (by decide) (hts _ m_26) (fun _ h9 => h9) rfl d_K_samplePart_118 ?_
          refine lv_iload_n hx hb d_K_samplePart_121 rfl (lv_at hl 0 rfl) ?_
          refine lv_iconst (v := 1) hx hb d_K_samplePart_122 (by decide) ?_
          refine lv_isub hx hb d_K_samplePart_123 ?_
          obtain ⟨h6, hw⟩ := hw
          refine va_lald hx hb hK hP 1 0 rfl rfl h6 d_K_samplePart_124 ?_
          refine lv_aload_n hx hb d_K_samplePart_125 rfl (lv_at hl 1 rfl) ?_
          refine va_get (D := (dC, dI)) (ci := 0) (v := .ref (h 2)) (C := RK) (T := TK) (N := 3) hx hb hts i_K hown hK hP 0 rfl rfl 1 (by decide) (hts _ m_27) (fun _ h9 => h9) rfl d_K_samplePart_126 ?_
          refine lv_iload_n hx hb d_K_samplePart_129 rfl (lv_at hl 0 rfl) ?_
          obtain ⟨h7, hw⟩ := hw
          refine va_lald hx hb hK hP 2 1 rfl rfl h7 d_K_samplePart_130 ?_
          refine lv_lmul hx hb d_K_samplePart_131 ?_
          refine lv_aload_n hx hb d_K_samplePart_132 rfl (lv_at hl 1 rfl) ?_
          refine va_get (D := (dC, dI)) (ci := 0) (v := .ref (h 1)) (C := RK) (T := TK) (N := 3) hx hb hts i_K hown hK hP 0 rfl rfl 0 (by decide) (hts _ m_26) (fun _ h9 => h9) rfl d_K_samplePart_133 ?_
          refine lv_iload_n hx hb d_K_samplePart_136 rfl (lv_at hl 0 rfl) ?_
          refine va_lald hx hb hK hP 1 0 rfl rfl h7 d_K_samplePart_137 ?_
          refine lv_aload_n hx hb d_K_samplePart_138 rfl (lv_at hl 1 rfl) ?_
          refine va_get (D := (dC, dI)) (ci := 0) (v := .ref (h 2)) (C := RK) (T := TK) (N := 3) hx hb hts i_K hown hK hP 0 rfl rfl 1 (by decide) (hts _ m_27) (fun _ h9 => h9) rfl d_K_samplePart_139 ?_
          refine lv_iload_n hx hb d_K_samplePart_142 rfl (lv_at hl 0 rfl) ?_
          refine lv_iconst (v := 1) hx hb d_K_samplePart_143 (by decide) ?_
          refine lv_isub hx hb d_K_samplePart_144 ?_
          refine va_lald hx hb hK hP 2 1 rfl rfl h6 d_K_samplePart_145 ?_
          refine lv_lmul hx hb d_K_samplePart_146 ?_
          refine lv_ladd hx hb d_K_samplePart_147 ?_
          refine lv_topl (fun y8 ey8 => ?_)
          have hw := hw y8 ey8
          refine lv_lstore (lv' := [(4, .long y8), (3, .int y3), (0, .ref (h 0)), (1, .int p0), (2, .int p1)]) hx hb d_K_samplePart_148 hl (by decide) rfl (fun ls hl => ?_)
          refine lv_lload hx hb d_K_samplePart_150 (lv_at hl 0 rfl) ?_
          refine lv_ldc2 (v := 2) hx hb hown (hts _ m_88) d_K_samplePart_152 ?_
          refine lv_aload_n hx hb d_K_samplePart_155 rfl (lv_at hl 2 rfl) ?_
          refine va_get (D := (dC, dI)) (ci := 0) (v := .ref (h 2)) (C := RK) (T := TK) (N := 3) hx hb hts i_K hown hK hP 0 rfl rfl 1 (by decide) (hts _ m_27) (fun _ h9 => h9) rfl d_K_samplePart_156 ?_
          refine lv_iload_n hx hb d_K_samplePart_159 rfl (lv_at hl 1 rfl) ?_
          refine lv_iconst (v := 1) hx hb d_K_samplePart_160 (by decide) ?_
          refine lv_isub hx hb d_K_samplePart_161 ?_
          refine va_lald hx hb hK hP 2 1 rfl rfl h6 d_K_samplePart_162 ?_
          refine lv_lmul hx hb d_K_samplePart_163 ?_
          refine lv_aload_n hx hb d_K_samplePart_164 rfl (lv_at hl 2 rfl) ?_
          refine va_get (D := (dC, dI)) (ci := 0) (v := .ref (h 2)) (C := RK) (T := TK) (N := 3) hx hb hts i_K hown hK hP 0 rfl rfl 1 (by decide) (hts _ m_27) (fun _ h9 => h9) rfl d_K_samplePart_165 ?_
          refine lv_iload_n hx hb d_K_samplePart_168 rfl (lv_at hl 1 rfl) ?_
          refine va_lald hx hb hK hP 2 1 rfl rfl h7 d_K_samplePart_169 ?_
          refine lv_lmul hx hb d_K_samplePart_170 ?_
          refine lv_iload_n hx hb d_K_samplePart_171 rfl (lv_at hl 4 rfl) ?_
          refine vp_callSl (va_Run.run (va_runS (As := [.long y8, .long ((2 * ((KS.dn st) (y3 - 1).toNatClampNeg)) * ((KS.dn st) y3.toNatClampNeg)), .int p1]) (rest := []) ⟨hx, hb, hml, hown, hts⟩ (t_K_reduced l y8 ((2 * ((KS.dn st) (y3 - 1).toNatClampNeg)) * ((KS.dn st) y3.toNatClampNeg)) p1 hw) (va_cwS 3 hts (gS m_76 m_77 m_2 (cw_call m_78)) rfl rfl rfl (by decide +kernel) ⟨Nat.le_of_ble_eq_true rfl, Nat.le_of_ble_eq_true rfl⟩) ⟨pSt_bl, fun U hU hW => ⟨rfl, trivial⟩⟩ rfl rfl hl.1 rfl (lv_room (Nat.le_of_ble_eq_true rfl)) d_K_samplePart_172 ⟨Nat.le_of_ble_eq_true rfl, Nat.le_of_ble_eq_true rfl⟩)) (fun r9 hw => ?_)
          exact W.lret (v := r9) hx hb hr (fun t ht hW => ⟨r9, rfl, hw, ht⟩) (fun _ h => by cases h) d_K_samplePart_175
        · skip
          have hw := hw.2 c5
          refine lv_aload_n hx hb d_K_samplePart_100 rfl (lv_at hl 1 rfl) ?_
          refine va_get (D := (dC, dI)) (ci := 0) (v := .ref (h 1)) (C := RK) (T := TK) (N := 3) hx hb hts i_K hown hK hP 0 rfl rfl 0 (by decide) (hts _ m_26) (fun _ h9 => h9) rfl d_K_samplePart_101 ?_
          refine lv_iload_n hx hb d_K_samplePart_104 rfl (lv_at hl 0 rfl) ?_
          obtain ⟨h10, hw⟩ := hw
          refine va_lald hx hb hK hP 1 0 rfl rfl h10 d_K_samplePart_105 ?_
          refine lv_aload_n hx hb d_K_samplePart_106 rfl (lv_at hl 1 rfl) ?_
          refine va_get (D := (dC, dI)) (ci := 0) (v := .ref (h 2)) (C := RK) (T := TK) (N := 3) hx hb hts i_K hown hK hP 0 rfl rfl 1 (by decide) (hts _ m_27) (fun _ h9 => h9) rfl d_K_samplePart_107 ?_
          refine lv_iload_n hx hb d_K_samplePart_110 rfl (lv_at hl 0 rfl) ?_
          refine va_lald hx hb hK hP 2 1 rfl rfl h10 d_K_samplePart_111 ?_
          refine lv_iload_n hx hb d_K_samplePart_112 rfl (lv_at hl 3 rfl) ?_
          refine vp_callSl (va_Run.run (va_runS (As := [.long ((KS.up st) y3.toNatClampNeg), .long ((KS.dn st) y3.toNatClampNeg), .int p1]) (rest := []) ⟨hx, hb, hml, hown, hts⟩ (t_K_reduced l ((KS.up st) y3.toNatClampNeg) ((KS.dn st) y3.toNatClampNeg) p1 hw) (va_cwS 3 hts (gS m_76 m_77 m_2 (cw_call m_78)) rfl rfl rfl (by decide +kernel) ⟨Nat.le_of_ble_eq_true rfl, Nat.le_of_ble_eq_true rfl⟩) ⟨pSt_bl, fun U hU hW => ⟨rfl, trivial⟩⟩ rfl rfl hl.1 rfl (lv_room (Nat.le_of_ble_eq_true rfl)) d_K_samplePart_113 ⟨Nat.le_of_ble_eq_true rfl, Nat.le_of_ble_eq_true rfl⟩)) (fun r11 hw => ?_)
          exact W.lret (v := r11) hx hb hr (fun t ht hW => ⟨r11, rfl, hw, ht⟩) (fun _ h => by cases h) d_K_samplePart_116
      · skip
        have hw := hw.2 c4
        refine lv_aload_n hx hb d_K_samplePart_54 rfl (lv_at hl 1 rfl) ?_
        refine va_get (D := (dC, dI)) (ci := 0) (v := .ref (h 1)) (C := RK) (T := TK) (N := 3) hx hb hts i_K hown hK hP 0 rfl rfl 0 (by decide) (hts _ m_26) (fun _ h9 => h9) rfl d_K_samplePart_55 ?_
        refine lv_aload_n hx hb d_K_samplePart_58 rfl (lv_at hl 1 rfl) ?_
        refine va_get (D := (dC, dI)) (ci := 0) (v := .int (KS.cnt st)) (C := RK) (T := TK) (N := 3) hx hb hts i_K hown hK hP 0 rfl rfl 2 (by decide) (hts _ m_28) (fun _ h9 => h9) rfl d_K_samplePart_59 ?_
        refine lv_iconst (v := 1) hx hb d_K_samplePart_62 (by decide) ?_
        refine lv_isub hx hb d_K_samplePart_63 ?_
        obtain ⟨h12, hw⟩ := hw
        refine va_lald hx hb hK hP 1 0 rfl rfl h12 d_K_samplePart_64 ?_
        refine lv_aload_n hx hb d_K_samplePart_65 rfl (lv_at hl 1 rfl) ?_
        refine va_get (D := (dC, dI)) (ci := 0) (v := .ref (h 2)) (C := RK) (T := TK) (N := 3) hx hb hts i_K hown hK hP 0 rfl rfl 1 (by decide) (hts _ m_27) (fun _ h9 => h9) rfl d_K_samplePart_66 ?_
        refine lv_aload_n hx hb d_K_samplePart_69 rfl (lv_at hl 1 rfl) ?_
        refine va_get (D := (dC, dI)) (ci := 0) (v := .int (KS.cnt st)) (C := RK) (T := TK) (N := 3) hx hb hts i_K hown hK hP 0 rfl rfl 2 (by decide) (hts _ m_28) (fun _ h9 => h9) rfl d_K_samplePart_70 ?_
        refine lv_iconst (v := 1) hx hb d_K_samplePart_73 (by decide) ?_
        refine lv_isub hx hb d_K_samplePart_74 ?_
        refine va_lald hx hb hK hP 2 1 rfl rfl h12 d_K_samplePart_75 ?_
        refine lv_ladd hx hb d_K_samplePart_76 ?_
        refine lv_aload_n hx hb d_K_samplePart_77 rfl (lv_at hl 1 rfl) ?_
        refine va_get (D := (dC, dI)) (ci := 0) (v := .ref (h 2)) (C := RK) (T := TK) (N := 3) hx hb hts i_K hown hK hP 0 rfl rfl 1 (by decide) (hts _ m_27) (fun _ h9 => h9) rfl d_K_samplePart_78 ?_
        refine lv_aload_n hx hb d_K_samplePart_81 rfl (lv_at hl 1 rfl) ?_
        refine va_get (D := (dC, dI)) (ci := 0) (v := .int (KS.cnt st)) (C := RK) (T := TK) (N := 3) hx hb hts i_K hown hK hP 0 rfl rfl 2 (by decide) (hts _ m_28) (fun _ h9 => h9) rfl d_K_samplePart_82 ?_
        refine lv_iconst (v := 1) hx hb d_K_samplePart_85 (by decide) ?_
        refine lv_isub hx hb d_K_samplePart_86 ?_
        refine va_lald hx hb hK hP 2 1 rfl rfl h12 d_K_samplePart_87 ?_
        refine lv_iload_n hx hb d_K_samplePart_88 rfl (lv_at hl 3 rfl) ?_
        refine vp_callSl (va_Run.run (va_runS (As := [.long (((KS.up st) ((KS.cnt st) - 1).toNatClampNeg) + ((KS.dn st) ((KS.cnt st) - 1).toNatClampNeg)), .long ((KS.dn st) ((KS.cnt st) - 1).toNatClampNeg), .int p1]) (rest := []) ⟨hx, hb, hml, hown, hts⟩ (t_K_reduced l (((KS.up st) ((KS.cnt st) - 1).toNatClampNeg) + ((KS.dn st) ((KS.cnt st) - 1).toNatClampNeg)) ((KS.dn st) ((KS.cnt st) - 1).toNatClampNeg) p1 hw) (va_cwS 3 hts (gS m_76 m_77 m_2 (cw_call m_78)) rfl rfl rfl (by decide +kernel) ⟨Nat.le_of_ble_eq_true rfl, Nat.le_of_ble_eq_true rfl⟩) ⟨pSt_bl, fun U hU hW => ⟨rfl, trivial⟩⟩ rfl rfl hl.1 rfl (lv_room (Nat.le_of_ble_eq_true rfl)) d_K_samplePart_89 ⟨Nat.le_of_ble_eq_true rfl, Nat.le_of_ble_eq_true rfl⟩)) (fun r13 hw => ?_)
        exact W.lret (v := r13) hx hb hr (fun t ht hW => ⟨r13, rfl, hw, ht⟩) (fun _ h => by cases h) d_K_samplePart_92
    · skip
      have hw := hw.2 c2
      refine lv_aload_n hx hb d_K_samplePart_18 rfl (lv_at hl 0 rfl) ?_
      refine va_get (D := (dC, dI)) (ci := 0) (v := .ref (h 1)) (C := RK) (T := TK) (N := 3) hx hb hts i_K hown hK hP 0 rfl rfl 0 (by decide) (hts _ m_26) (fun _ h9 => h9) rfl d_K_samplePart_19 ?_
      refine lv_iconst (v := 0) hx hb d_K_samplePart_22 (by decide) ?_
      refine va_lald hx hb hK hP 1 0 rfl rfl (by unfold vp_in; decide) d_K_samplePart_23 ?_
      refine lv_aload_n hx hb d_K_samplePart_24 rfl (lv_at hl 0 rfl) ?_
      refine va_get (D := (dC, dI)) (ci := 0) (v := .ref (h 2)) (C := RK) (T := TK) (N := 3) hx hb hts i_K hown hK hP 0 rfl rfl 1 (by decide) (hts _ m_27) (fun _ h9 => h9) rfl d_K_samplePart_25 ?_
      refine lv_iconst (v := 0) hx hb d_K_samplePart_28 (by decide) ?_
      refine va_lald hx hb hK hP 2 1 rfl rfl (by unfold vp_in; decide) d_K_samplePart_29 ?_
      refine lv_lsub hx hb d_K_samplePart_30 ?_
      refine lv_aload_n hx hb d_K_samplePart_31 rfl (lv_at hl 0 rfl) ?_
      refine va_get (D := (dC, dI)) (ci := 0) (v := .ref (h 2)) (C := RK) (T := TK) (N := 3) hx hb hts i_K hown hK hP 0 rfl rfl 1 (by decide) (hts _ m_27) (fun _ h9 => h9) rfl d_K_samplePart_32 ?_
      refine lv_iconst (v := 0) hx hb d_K_samplePart_35 (by decide) ?_
      refine va_lald hx hb hK hP 2 1 rfl rfl (by unfold vp_in; decide) d_K_samplePart_36 ?_
      refine lv_iload_n hx hb d_K_samplePart_37 rfl (lv_at hl 2 rfl) ?_
      refine vp_callSl (va_Run.run (va_runS (As := [.long (((KS.up st) (0 : Int32).toNatClampNeg) - ((KS.dn st) (0 : Int32).toNatClampNeg)), .long ((KS.dn st) (0 : Int32).toNatClampNeg), .int p1]) (rest := []) ⟨hx, hb, hml, hown, hts⟩ (t_K_reduced l (((KS.up st) (0 : Int32).toNatClampNeg) - ((KS.dn st) (0 : Int32).toNatClampNeg)) ((KS.dn st) (0 : Int32).toNatClampNeg) p1 hw) (va_cwS 3 hts (gS m_76 m_77 m_2 (cw_call m_78)) rfl rfl rfl (by decide +kernel) ⟨Nat.le_of_ble_eq_true rfl, Nat.le_of_ble_eq_true rfl⟩) ⟨pSt_bl, fun U hU hW => ⟨rfl, trivial⟩⟩ rfl rfl hl.1 rfl (lv_room (Nat.le_of_ble_eq_true rfl)) d_K_samplePart_38 ⟨Nat.le_of_ble_eq_true rfl, Nat.le_of_ble_eq_true rfl⟩)) (fun r14 hw => ?_)
      exact W.lret (v := r14) hx hb hr (fun t ht hW => ⟨r14, rfl, hw, ht⟩) (fun _ h => by cases h) d_K_samplePart_41
  · skip
    have hw := hw.2 c1
    refine lv_lconst (v := 0) hx hb d_K_samplePart_7 (by decide) ?_
    refine lv_lconst (v := 1) hx hb d_K_samplePart_8 (by decide) ?_
    refine lv_iload_n hx hb d_K_samplePart_9 rfl (lv_at hl 2 rfl) ?_
    refine vp_callSl (va_Run.run (va_runS (As := [.long 0, .long 1, .int p1]) (rest := []) ⟨hx, hb, hml, hown, hts⟩ (t_K_reduced l (0 : Int64) (1 : Int64) p1 hw) (va_cwS 3 hts (gS m_76 m_77 m_2 (cw_call m_78)) rfl rfl rfl (by decide +kernel) ⟨Nat.le_of_ble_eq_true rfl, Nat.le_of_ble_eq_true rfl⟩) ⟨pSt_bl, fun U hU hW => ⟨rfl, trivial⟩⟩ rfl rfl hl.1 rfl (lv_room (Nat.le_of_ble_eq_true rfl)) d_K_samplePart_10 ⟨Nat.le_of_ble_eq_true rfl, Nat.le_of_ble_eq_true rfl⟩)) (fun r15 hw => ?_)
    exact W.lret (v := r15) hx hb hr (fun t ht hW => ⟨r15, rfl, hw, ht⟩) (fun _ h => by cases h) d_K_samplePart_13
