def w_M_thrown (st : MS) (post : Int32 → Prop) : Prop := post (MS.code st)
set_option maxHeartbeats 4000000 in
set_option maxRecDepth 100000 in
theorem t_M_thrown (l : Launch) (dC : Nat → ClassId) (dI : Nat → Nat → Nat) (h : Nat → Nat) (k : Nat → ClassId) (st : MS) {post : Int32 → Prop} (hw : w_M_thrown st post) : Met l y_M_thrown (Cond.code y_M_thrown prog_4_method_2_code 1 (some .int) :: cw) ({ frames := 0, cells := 0, slots := 0, locals := 0 } : Room) (va_Pc [.ref (h 0)] (pRo (dC, dI) (WM h k st) (YM k))) (vp_Si post) 0 0 (fun _ => False) := by
  refine Met.ofW (cc := prog_4_method_2_code) (maxL := 1) (ret := (some .int)) (by decide) rfl ?_
  intro p e s m args below meth c s₁ B hml hv
  obtain ⟨rfl, hP, hK, hN⟩ := hv
  have hx := B.exec
  have hb := B.bytes
  have hr := B.returns
  have hts : ∀ w ∈ cw, w.before _ s = true := fun w h => atoms_spec (ws := (Cond.code y_M_thrown prog_4_method_2_code 1 (some .int) :: cw)) B.pre w (List.mem_cons_of_mem _ h)
  have hown : s.vm.findClass RM = some m.cls := findClass_of_methodNamed B.named
  have hlocks := B.notSynchronized
  have C0 : cxt p s m _ meth c prog_4_method_2_code 1 RM (some .int) := ⟨hx, hb, hr, hml, hown, hts, hlocks⟩
  have hl := lv_entry ([.ref (h 0)]) (n := 1) (Nat.le_of_ble_eq_true rfl)
  rw [lg_entry_eq]
  generalize (lg_sl ([.ref (h 0)]) ++ List.replicate (1 - (lg_sl ([.ref (h 0)])).length) Slot.unset).toArray = ls at hl ⊢
  have hl : lv_has ls 1 [(0, .ref (h 0))] := hl
  unfold w_M_thrown at hw
  refine lv_aload_n hx hb d_M_thrown_0 rfl (lv_at hl 0 rfl) ?_
  refine va_get (D := (dC, dI)) (ci := 2) (v := .int (MS.code st)) (C := RM) (T := TM) (N := 15) hx hb hts i_M hown hK hP 0 rfl rfl 0 (by decide) (hts _ m_376) (fun _ h9 => h9) rfl d_M_thrown_1 ?_
  exact W.iret (v := (MS.code st)) hx hb hr (fun t ht hW => ⟨(MS.code st), rfl, hw, ht⟩) (fun _ h => by cases h) d_M_thrown_4
def w_M_in (post : Int32 → Prop) (p0 : Int64) (p1 : Int64) (p2 : Int64) : Prop := (p0 < p1 → (post 0)) ∧ (¬ p0 < p1 → ((p2 < p0 → (post 0)) ∧ (¬ p2 < p0 → (post 1))))
set_option maxHeartbeats 4000000 in
set_option maxRecDepth 100000 in
theorem t_M_in (l : Launch) (p0 : Int64) (p1 : Int64) (p2 : Int64) {post : Int32 → Prop} (hw : w_M_in post p0 p1 p2) : Met l y_M_in (Cond.code y_M_in prog_4_method_4_code 6 (some .boolean) :: cw) ({ frames := 0, cells := 0, slots := 0, locals := 0 } : Room) (va_Pc [.long p0, .long p1, .long p2] (fun _ => True)) (vp_Si post) 0 0 (fun _ => False) := by
  refine Met.ofW (cc := prog_4_method_4_code) (maxL := 6) (ret := (some .boolean)) (by decide) rfl ?_
  intro p e s m args below meth c s₁ B hml hv
  obtain ⟨rfl, -⟩ := hv
  have hx := B.exec
  have hb := B.bytes
  have hr := B.returns
  have hts : ∀ w ∈ cw, w.before _ s = true := fun w h => atoms_spec (ws := (Cond.code y_M_in prog_4_method_4_code 6 (some .boolean) :: cw)) B.pre w (List.mem_cons_of_mem _ h)
  have hown : s.vm.findClass RM = some m.cls := findClass_of_methodNamed B.named
  have hlocks := B.notSynchronized
  have C0 : cxt p s m _ meth c prog_4_method_4_code 6 RM (some .boolean) := ⟨hx, hb, hr, hml, hown, hts, hlocks⟩
  have hl := lv_entry ([.long p0, .long p1, .long p2]) (n := 6) (Nat.le_of_ble_eq_true rfl)
  rw [lg_entry_eq]
  generalize (lg_sl ([.long p0, .long p1, .long p2]) ++ List.replicate (6 - (lg_sl ([.long p0, .long p1, .long p2])).length) Slot.unset).toArray = ls at hl ⊢
  have hl : lv_has ls 6 [(0, .long p0), (2, .long p1), (4, .long p2)] := hl
  unfold w_M_in at hw
  refine lv_lload_n hx hb d_M_in_0 rfl (lv_at hl 0 rfl) ?_
  refine lv_lload_n hx hb d_M_in_1 rfl (lv_at hl 1 rfl) ?_
  refine W.lcmp hx hb d_M_in_2 ?_
  refine lv_if_lt (tgt := 17) hx hb d_M_in_3 (by decide) (fun c1 => ?_) (fun c1 => ?_)
  · have c1 : p0 < p1 := (lgc_lt.mp c1)
    have hw := hw.1 c1
    refine lv_iconst (v := 0) hx hb d_M_in_17 (by decide) ?_
    exact W.zret (v := 0) hx hb hr rfl (fun t ht hW => ⟨0, rfl, hw, ht⟩) (fun _ h => by cases h) d_M_in_18
  · have c1 : ¬ p0 < p1 := (fun q => c1 (lgc_lt.mpr q))
    have hw := hw.2 c1
    refine lv_lload_n hx hb d_M_in_6 rfl (lv_at hl 0 rfl) ?_
    refine lv_lload hx hb d_M_in_7 (lv_at hl 2 rfl) ?_
    refine W.lcmp hx hb d_M_in_9 ?_
    refine lv_if_gt (tgt := 17) hx hb d_M_in_10 (by decide) (fun c2 => ?_) (fun c2 => ?_)
    · have c2 : p2 < p0 := (lgc_gt.mp c2)
      have hw := hw.1 c2
      refine lv_iconst (v := 0) hx hb d_M_in_17 (by decide) ?_
      exact W.zret (v := 0) hx hb hr rfl (fun t ht hW => ⟨0, rfl, hw, ht⟩) (fun _ h => by cases h) d_M_in_18
    · have c2 : ¬ p2 < p0 := (fun q => c2 (lgc_gt.mpr q))
      have hw := hw.2 c2
      refine lv_iconst (v := 1) hx hb d_M_in_13 (by decide) ?_
      refine lv_goto (tgt := 18) hx hb d_M_in_14 (by decide) ?_
      exact W.zret (v := 1) hx hb hr rfl (fun t ht hW => ⟨1, rfl, hw, ht⟩) (fun _ h => by cases h) d_M_in_18
def w_M_lowest_28 (post : MS → Prop) : Nat → MS → Int64 → Int64 → Int64 → Int64 → Prop
  | 0, _, _, _, _, _ => False
  | n + 1, st, v1, v3, v5, v7 => (v7 = 0 → ((0 ≤ v3 → (¬ v5 = 0 ∧ (¬ v5 = 0 ∧ (post ((MS.code st), (MS.lines st), (MS.num st), (MS.cuts st), (MS.cu st), (MS.cd st), (MS.curves st), (MS.yu st), (MS.yd st), (v1 / v5), (v3 / v5), (MS.xu st), (MS.xd st), (MS.strip st), (MS.place st)))))) ∧ (¬ 0 ≤ v3 → (¬ v5 = 0 ∧ (¬ v5 = 0 ∧ (post ((MS.code st), (MS.lines st), (MS.num st), (MS.cuts st), (MS.cu st), (MS.cd st), (MS.curves st), (MS.yu st), (MS.yd st), (-(v1 / v5)), (-(v3 / v5)), (MS.xu st), (MS.xd st), (MS.strip st), (MS.place st)))))))) ∧ (¬ v7 = 0 → (¬ v7 = 0 ∧ (∀ y15 : Int64, y15 = (v5 - v5 / v7 * v7) → (w_M_lowest_28 post n st v1 v3 v7 y15))))
set_option maxHeartbeats 4000000 in
set_option maxRecDepth 100000 in
theorem k_M_lowest_28 {p : Program} {l : Launch} {e : Env} {s : State} {m : MethodId} {args : Array Value} {below : List Frame} {meth : Method} {c : Code} {dC : Nat → ClassId} {dI : Nat → Nat → Nat} {h : Nat → Nat} {k : Nat → ClassId} {A : Nat → Prop} {post : MS → Prop} (C0 : cxt p s m args meth c prog_4_method_5_code 11 RM none) (hK : va_K (dC, dI) vwCl (YM k) s) (hN : va_Nw nestW s) (hA : ∀ q, s.heap.size ≤ q → A q) : ∀ (n : Nat), ∀ (st : MS) (v1 : Int64) (v3 : Int64) (v5 : Int64) (v7 : Int64) (H : Heap) (locs : List Loc), va_P (dC, dI) vwCl (WM h k st) H → va_D A (WM h k st) → va_S A s.heap H locs → ∀ ls, lv_has ls 11 [(0, .ref (h 0)), (1, .long v1), (3, .long v3), (5, .long v5), (7, .long v7)] → w_M_lowest_28 post n st v1 v3 v5 v7 → W p l e ({ frames := 0, cells := 0, slots := 0, locals := 0 } : Room) s m args below meth c H locs 0 0 (MQ below (va_Qv post (fun u t => va_P (dC, dI) vwCl (WM h k u) t.heap ∧ va_D A (WM h k u)) A) args s 0 0 A) (F0 m 28 ls []) := by
  obtain ⟨hx, hb, hr, hml, hown, hts, hlocks⟩ := id C0
  intro n
  induction n with
  | zero =>
    intro st v1 v3 v5 v7 H locs hP hD hS ls hl hw
    exact False.elim hw
  | succ n ih =>
    intro st v1 v3 v5 v7 H locs hP hD hS ls hl hw
    rw [w_M_lowest_28] at hw
    refine lv_lload hx hb d_M_lowest_28 (lv_at hl 4 rfl) ?_
    refine lv_lconst (v := 0) hx hb d_M_lowest_30 (by decide) ?_
    refine W.lcmp hx hb d_M_lowest_31 ?_
    refine lv_if_eq (tgt := 53) hx hb d_M_lowest_32 (by decide) (fun c8 => ?_) (fun c8 => ?_)
    · have c8 : v7 = 0 := (lgc_eq.mp c8)
      have hw := hw.1 c8
      refine lv_aload_n hx hb d_M_lowest_53 rfl (lv_at hl 0 rfl) ?_
      refine lv_lload_n hx hb d_M_lowest_54 rfl (lv_at hl 2 rfl) ?_
      refine lv_lconst (v := 0) hx hb d_M_lowest_55 (by decide) ?_
      refine W.lcmp hx hb d_M_lowest_56 ?_
      refine lv_if_ge (tgt := 68) hx hb d_M_lowest_57 (by decide) (fun c9 => ?_) (fun c9 => ?_)
      · have c9 : 0 ≤ v3 := (lgc_ge.mp c9)
        have hw := hw.1 c9
        refine lv_lload_n hx hb d_M_lowest_68 rfl (lv_at hl 1 rfl) ?_
        refine lv_lload hx hb d_M_lowest_69 (lv_at hl 3 rfl) ?_
        obtain ⟨h10, hw⟩ := hw
        refine lv_ldiv hx hb d_M_lowest_71 h10 ?_
        refine va_put (D := (dC, dI)) (ci := 2) (v := .long (v1 / v5)) (ty := .long) (C := RM) (T := TM) (N := 15) hx hb hts i_M tyM tyM_ok nmM hown hK hP hD hS 0 rfl rfl 9 (by decide) (hts _ m_385) (fun _ h9 => h9) rfl (by decide +kernel) rfl rfl (Nat.le_of_ble_eq_true rfl) d_M_lowest_72 (fun H locs hP hD hS => ?_)
        have hP : va_P (dC, dI) vwCl [(h 0, .inr (2, [.int (MS.code st), .int (MS.lines st), .ref (h 1), .int (MS.cuts st), .ref (h 2), .ref (h 3), .int (MS.curves st), .ref (h 4), .ref (h 5), .long (v1 / v5), .long (MS.down st), .long (MS.xu st), .long (MS.xd st), .int (MS.strip st), .int (MS.place st)])), (h 1, .inl (k 1, 18, .inl (MS.num st))), (h 2, .inl (k 2, 24, .inr (.inl (MS.cu st)))), (h 3, .inl (k 3, 24, .inr (.inl (MS.cd st)))), (h 4, .inl (k 4, 6, .inr (.inl (MS.yu st)))), (h 5, .inl (k 5, 6, .inr (.inl (MS.yd st))))] H := hP
        have hD : va_D A [(h 0, .inr (2, [.int (MS.code st), .int (MS.lines st), .ref (h 1), .int (MS.cuts st), .ref (h 2), .ref (h 3), .int (MS.curves st), .ref (h 4), .ref (h 5), .long (v1 / v5), .long (MS.down st), .long (MS.xu st), .long (MS.xd st), .int (MS.strip st), .int (MS.place st)])), (h 1, .inl (k 1, 18, .inl (MS.num st))), (h 2, .inl (k 2, 24, .inr (.inl (MS.cu st)))), (h 3, .inl (k 3, 24, .inr (.inl (MS.cd st)))), (h 4, .inl (k 4, 6, .inr (.inl (MS.yu st)))), (h 5, .inl (k 5, 6, .inr (.inl (MS.yd st))))] := hD
        refine lv_aload_n hx hb d_M_lowest_75 rfl (lv_at hl 0 rfl) ?_
        refine lv_lload_n hx hb d_M_lowest_76 rfl (lv_at hl 2 rfl) ?_
        refine lv_lconst (v := 0) hx hb d_M_lowest_77 (by decide) ?_
        refine W.lcmp hx hb d_M_lowest_78 ?_
        refine lv_if_ge (tgt := 90) hx hb d_M_lowest_79 (by decide) (fun _ => ?_) (fun cz => absurd c9 (fun q => cz (lgc_ge.mpr q)))
        refine lv_lload_n hx hb d_M_lowest_90 rfl (lv_at hl 2 rfl) ?_
        refine lv_lload hx hb d_M_lowest_91 (lv_at hl 3 rfl) ?_
        obtain ⟨h11, hw⟩ := hw
        refine lv_ldiv hx hb d_M_lowest_93 h11 ?_
        refine va_put (D := (dC, dI)) (ci := 2) (v := .long (v3 / v5)) (ty := .long) (C := RM) (T := TM) (N := 15) hx hb hts i_M tyM tyM_ok nmM hown hK hP hD hS 0 rfl rfl 10 (by decide) (hts _ m_386) (fun _ h9 => h9) rfl (by decide +kernel) rfl rfl (Nat.le_of_ble_eq_true rfl) d_M_lowest_94 (fun H locs hP hD hS => ?_)
        have hP : va_P (dC, dI) vwCl [(h 0, .inr (2, [.int (MS.code st), .int (MS.lines st), .ref (h 1), .int (MS.cuts st), .ref (h 2), .ref (h 3), .int (MS.curves st), .ref (h 4), .ref (h 5), .long (v1 / v5), .long (v3 / v5), .long (MS.xu st), .long (MS.xd st), .int (MS.strip st), .int (MS.place st)])), (h 1, .inl (k 1, 18, .inl (MS.num st))), (h 2, .inl (k 2, 24, .inr (.inl (MS.cu st)))), (h 3, .inl (k 3, 24, .inr (.inl (MS.cd st)))), (h 4, .inl (k 4, 6, .inr (.inl (MS.yu st)))), (h 5, .inl (k 5, 6, .inr (.inl (MS.yd st))))] H := hP
        have hD : va_D A [(h 0, .inr (2, [.int (MS.code st), .int (MS.lines st), .ref (h 1), .int (MS.cuts st), .ref (h 2), .ref (h 3), .int (MS.curves st), .ref (h 4), .ref (h 5), .long (v1 / v5), .long (v3 / v5), .long (MS.xu st), .long (MS.xd st), .int (MS.strip st), .int (MS.place st)])), (h 1, .inl (k 1, 18, .inl (MS.num st))), (h 2, .inl (k 2, 24, .inr (.inl (MS.cu st)))), (h 3, .inl (k 3, 24, .inr (.inl (MS.cd st)))), (h 4, .inl (k 4, 6, .inr (.inl (MS.yu st)))), (h 5, .inl (k 5, 6, .inr (.inl (MS.yd st))))] := hD
        have hP : va_P (dC, dI) vwCl (WM h k ((MS.code st), (MS.lines st), (MS.num st), (MS.cuts st), (MS.cu st), (MS.cd st), (MS.curves st), (MS.yu st), (MS.yd st), (v1 / v5), (v3 / v5), (MS.xu st), (MS.xd st), (MS.strip st), (MS.place st))) _ := hP
        have hD : va_D A (WM h k ((MS.code st), (MS.lines st), (MS.num st), (MS.cuts st), (MS.cu st), (MS.cd st), (MS.curves st), (MS.yu st), (MS.yd st), (v1 / v5), (v3 / v5), (MS.xu st), (MS.xd st), (MS.strip st), (MS.place st))) := hD
        exact W.vret hx hb hr (fun t ht hW => ⟨⟨((MS.code st), (MS.lines st), (MS.num st), (MS.cuts st), (MS.cu st), (MS.cd st), (MS.curves st), (MS.yu st), (MS.yd st), (v1 / v5), (v3 / v5), (MS.xu st), (MS.xd st), (MS.strip st), (MS.place st)), rfl, hw, by rw [ht]; exact hP, hD⟩, hS.F ht⟩) hS.2.2 d_M_lowest_97
      · have c9 : ¬ 0 ≤ v3 := (fun q => c9 (lgc_ge.mpr q))
        have hw := hw.2 c9
        refine lv_lload_n hx hb d_M_lowest_60 rfl (lv_at hl 1 rfl) ?_
        refine lv_lload hx hb d_M_lowest_61 (lv_at hl 3 rfl) ?_
        obtain ⟨h12, hw⟩ := hw
        refine lv_ldiv hx hb d_M_lowest_63 h12 ?_
        refine lv_lneg hx hb d_M_lowest_64 ?_
        refine lv_goto (tgt := 72) hx hb d_M_lowest_65 (by decide) ?_
        refine va_put (D := (dC, dI)) (ci := 2) (v := .long (-(v1 / v5))) (ty := .long) (C := RM) (T := TM) (N := 15) hx hb hts i_M tyM tyM_ok nmM hown hK hP hD hS 0 rfl rfl 9 (by decide) (hts _ m_385) (fun _ h9 => h9) rfl (by decide +kernel) rfl rfl (Nat.le_of_ble_eq_true rfl) d_M_lowest_72 (fun H locs hP hD hS => ?_)
        have hP : va_P (dC, dI) vwCl [(h 0, .inr (2, [.int (MS.code st), .int (MS.lines st), .ref (h 1), .int (MS.cuts st), .ref (h 2), .ref (h 3), .int (MS.curves st), .ref (h 4), .ref (h 5), .long (-(v1 / v5)), .long (MS.down st), .long (MS.xu st), .long (MS.xd st), .int (MS.strip st), .int (MS.place st)])), (h 1, .inl (k 1, 18, .inl (MS.num st))), (h 2, .inl (k 2, 24, .inr (.inl (MS.cu st)))), (h 3, .inl (k 3, 24, .inr (.inl (MS.cd st)))), (h 4, .inl (k 4, 6, .inr (.inl (MS.yu st)))), (h 5, .inl (k 5, 6, .inr (.inl (MS.yd st))))] H := hP
        have hD : va_D A [(h 0, .inr (2, [.int (MS.code st), .int (MS.lines st), .ref (h 1), .int (MS.cuts st), .ref (h 2), .ref (h 3), .int (MS.curves st), .ref (h 4), .ref (h 5), .long (-(v1 / v5)), .long (MS.down st), .long (MS.xu st), .long (MS.xd st), .int (MS.strip st), .int (MS.place st)])), (h 1, .inl (k 1, 18, .inl (MS.num st))), (h 2, .inl (k 2, 24, .inr (.inl (MS.cu st)))), (h 3, .inl (k 3, 24, .inr (.inl (MS.cd st)))), (h 4, .inl (k 4, 6, .inr (.inl (MS.yu st)))), (h 5, .inl (k 5, 6, .inr (.inl (MS.yd st))))] := hD
        refine lv_aload_n hx hb d_M_lowest_75 rfl (lv_at hl 0 rfl) ?_
        refine lv_lload_n hx hb d_M_lowest_76 rfl (lv_at hl 2 rfl) ?_
        refine lv_lconst (v := 0) hx hb d_M_lowest_77 (by decide) ?_
        refine W.lcmp hx hb d_M_lowest_78 ?_
        refine lv_if_ge (tgt := 90) hx hb d_M_lowest_79 (by decide) (fun cz => absurd (lgc_ge.mp cz) c9) (fun _ => ?_)
        refine lv_lload_n hx hb d_M_lowest_82 rfl (lv_at hl 2 rfl) ?_
        refine lv_lload hx hb d_M_lowest_83 (lv_at hl 3 rfl) ?_
        obtain ⟨h13, hw⟩ := hw
        refine lv_ldiv hx hb d_M_lowest_85 h13 ?_
        refine lv_lneg hx hb d_M_lowest_86 ?_
        refine lv_goto (tgt := 94) hx hb d_M_lowest_87 (by decide) ?_
        refine va_put (D := (dC, dI)) (ci := 2) (v := .long (-(v3 / v5))) (ty := .long) (C := RM) (T := TM) (N := 15) hx hb hts i_M tyM tyM_ok nmM hown hK hP hD hS 0 rfl rfl 10 (by decide) (hts _ m_386) (fun _ h9 => h9) rfl (by decide +kernel) rfl rfl (Nat.le_of_ble_eq_true rfl) d_M_lowest_94 (fun H locs hP hD hS => ?_)
        have hP : va_P (dC, dI) vwCl [(h 0, .inr (2, [.int (MS.code st), .int (MS.lines st), .ref (h 1), .int (MS.cuts st), .ref (h 2), .ref (h 3), .int (MS.curves st), .ref (h 4), .ref (h 5), .long (-(v1 / v5)), .long (-(v3 / v5)), .long (MS.xu st), .long (MS.xd st), .int (MS.strip st), .int (MS.place st)])), (h 1, .inl (k 1, 18, .inl (MS.num st))), (h 2, .inl (k 2, 24, .inr (.inl (MS.cu st)))), (h 3, .inl (k 3, 24, .inr (.inl (MS.cd st)))), (h 4, .inl (k 4, 6, .inr (.inl (MS.yu st)))), (h 5, .inl (k 5, 6, .inr (.inl (MS.yd st))))] H := hP
        have hD : va_D A [(h 0, .inr (2, [.int (MS.code st), .int (MS.lines st), .ref (h 1), .int (MS.cuts st), .ref (h 2), .ref (h 3), .int (MS.curves st), .ref (h 4), .ref (h 5), .long (-(v1 / v5)), .long (-(v3 / v5)), .long (MS.xu st), .long (MS.xd st), .int (MS.strip st), .int (MS.place st)])), (h 1, .inl (k 1, 18, .inl (MS.num st))), (h 2, .inl (k 2, 24, .inr (.inl (MS.cu st)))), (h 3, .inl (k 3, 24, .inr (.inl (MS.cd st)))), (h 4, .inl (k 4, 6, .inr (.inl (MS.yu st)))), (h 5, .inl (k 5, 6, .inr (.inl (MS.yd st))))] := hD
        have hP : va_P (dC, dI) vwCl (WM h k ((MS.code st), (MS.lines st), (MS.num st), (MS.cuts st), (MS.cu st), (MS.cd st), (MS.curves st), (MS.yu st), (MS.yd st), (-(v1 / v5)), (-(v3 / v5)), (MS.xu st), (MS.xd st), (MS.strip st), (MS.place st))) _ := hP
        have hD : va_D A (WM h k ((MS.code st), (MS.lines st), (MS.num st), (MS.cuts st), (MS.cu st), (MS.cd st), (MS.curves st), (MS.yu st), (MS.yd st), (-(v1 / v5)), (-(v3 / v5)), (MS.xu st), (MS.xd st), (MS.strip st), (MS.place st))) := hD
        exact W.vret hx hb hr (fun t ht hW => ⟨⟨((MS.code st), (MS.lines st), (MS.num st), (MS.cuts st), (MS.cu st), (MS.cd st), (MS.curves st), (MS.yu st), (MS.yd st), (-(v1 / v5)), (-(v3 / v5)), (MS.xu st), (MS.xd st), (MS.strip st), (MS.place st)), rfl, hw, by rw [ht]; exact hP, hD⟩, hS.F ht⟩) hS.2.2 d_M_lowest_97
    · have c8 : ¬ v7 = 0 := (fun q => c8 (lgc_eq.mpr q))
      have hw := hw.2 c8
      refine lv_lload hx hb d_M_lowest_35 (lv_at hl 3 rfl) ?_
      refine lv_lload hx hb d_M_lowest_37 (lv_at hl 4 rfl) ?_
      obtain ⟨h14, hw⟩ := hw
      refine lv_lrem hx hb d_M_lowest_39 h14 ?_
      refine lv_topl (fun y15 ey15 => ?_)
      have hw := hw y15 ey15
      refine lv_lstore (lv' := [(9, .long y15), (0, .ref (h 0)), (1, .long v1), (3, .long v3), (5, .long v5), (7, .long v7)]) hx hb d_M_lowest_40 hl (by decide) rfl (fun ls hl => ?_)
      refine lv_lload hx hb d_M_lowest_42 (lv_at hl 5 rfl) ?_
      refine lv_lstore (lv' := [(5, .long v7), (9, .long y15), (0, .ref (h 0)), (1, .long v1), (3, .long v3), (7, .long v7)]) hx hb d_M_lowest_44 hl (by decide) rfl (fun ls hl => ?_)
      refine lv_lload hx hb d_M_lowest_46 (lv_at hl 1 rfl) ?_
      refine lv_lstore (lv' := [(7, .long y15), (5, .long v7), (9, .long y15), (0, .ref (h 0)), (1, .long v1), (3, .long v3)]) hx hb d_M_lowest_48 hl (by decide) rfl (fun ls hl => ?_)
      refine lv_goto (tgt := 28) hx hb d_M_lowest_50 (by decide) ?_
      exact ih st v1 v3 v7 y15 _ _ hP hD hS ls (lv_sub hl [3, 4, 5, 1, 0] rfl) hw
def w_M_lowest (st : MS) (post : MS → Prop) (p0 : Int64) (p1 : Int64) : Prop := (0 ≤ p0 → ((0 ≤ p1 → (∃ z, w_M_lowest_28 post z st p0 p1 p0 p1)) ∧ (¬ 0 ≤ p1 → (∃ z, w_M_lowest_28 post z st p0 p1 p0 (-p1))))) ∧ (¬ 0 ≤ p0 → ((0 ≤ p1 → (∃ z, w_M_lowest_28 post z st p0 p1 (-p0) p1)) ∧ (¬ 0 ≤ p1 → (∃ z, w_M_lowest_28 post z st p0 p1 (-p0) (-p1)))))
set_option maxHeartbeats 4000000 in
set_option maxRecDepth 100000 in
theorem t_M_lowest (l : Launch) (dC : Nat → ClassId) (dI : Nat → Nat → Nat) (h : Nat → Nat) (k : Nat → ClassId) (sz : Nat) (st : MS) (p0 : Int64) (p1 : Int64) {post : MS → Prop} (hw : w_M_lowest st post p0 p1) : Met l y_M_lowest (Cond.code y_M_lowest prog_4_method_5_code 11 none :: cw) ({ frames := 0, cells := 0, slots := 0, locals := 0 } : Room) (va_Pc [.ref (h 0), .long p0, .long p1] (pRw (dC, dI) (WM h k st) (YM k) sz)) (va_Qv post (fun u t => va_P (dC, dI) vwCl (WM h k u) t.heap ∧ va_D (va_A (WM h k st) sz) (WM h k u)) (va_A (WM h k st) sz)) 0 0 (va_A (WM h k st) sz) := by
  refine Met.ofW (cc := prog_4_method_5_code) (maxL := 11) (ret := none) (by decide) rfl ?_
  intro p e s m args below meth c s₁ B hml hv
  obtain ⟨rfl, hsz, hP, hK, hN, hD0⟩ := hv
  have hx := B.exec
  have hb := B.bytes
  have hr := B.returns
  have hts : ∀ w ∈ cw, w.before _ s = true := fun w h => atoms_spec (ws := (Cond.code y_M_lowest prog_4_method_5_code 11 none :: cw)) B.pre w (List.mem_cons_of_mem _ h)
  have hown : s.vm.findClass RM = some m.cls := findClass_of_methodNamed B.named
  have hlocks := B.notSynchronized
  have C0 : cxt p s m _ meth c prog_4_method_5_code 11 RM none := ⟨hx, hb, hr, hml, hown, hts, hlocks⟩
  subst hsz
  have hD := hD0.self (sz := s.heap.size)
  generalize hAe : va_A (WM h k st) s.heap.size = A at hD ⊢
  have hA : ∀ q : Nat, s.heap.size ≤ q → A q := fun q h => by rw [← hAe]; exact Or.inr h
  have hS : va_S A s.heap s.heap [] := va_S.rf
  have hl := lv_entry ([.ref (h 0), .long p0, .long p1]) (n := 11) (Nat.le_of_ble_eq_true rfl)
  rw [lg_entry_eq]
  generalize (lg_sl ([.ref (h 0), .long p0, .long p1]) ++ List.replicate (11 - (lg_sl ([.ref (h 0), .long p0, .long p1])).length) Slot.unset).toArray = ls at hl ⊢
  have hl : lv_has ls 11 [(0, .ref (h 0)), (1, .long p0), (3, .long p1)] := hl
  unfold w_M_lowest at hw
  refine lv_lload_n hx hb d_M_lowest_0 rfl (lv_at hl 1 rfl) ?_
  refine lv_lconst (v := 0) hx hb d_M_lowest_1 (by decide) ?_
  refine W.lcmp hx hb d_M_lowest_2 ?_
  refine lv_if_ge (tgt := 11) hx hb d_M_lowest_3 (by decide) (fun c1 => ?_) (fun c1 => ?_)
  · have c1 : 0 ≤ p0 := (lgc_ge.mp c1)
    have hw := hw.1 c1
    refine lv_lload_n hx hb d_M_lowest_11 rfl (lv_at hl 1 rfl) ?_
    refine lv_lstore (lv' := [(5, .long p0), (0, .ref (h 0)), (1, .long p0), (3, .long p1)]) hx hb d_M_lowest_12 hl (by decide) rfl (fun ls hl => ?_)
    refine lv_lload_n hx hb d_M_lowest_14 rfl (lv_at hl 3 rfl) ?_
    refine lv_lconst (v := 0) hx hb d_M_lowest_15 (by decide) ?_
    refine W.lcmp hx hb d_M_lowest_16 ?_
    refine lv_if_ge (tgt := 25) hx hb d_M_lowest_17 (by decide) (fun c2 => ?_) (fun c2 => ?_)
    · have c2 : 0 ≤ p1 := (lgc_ge.mp c2)
      have hw := hw.1 c2
      refine lv_lload_n hx hb d_M_lowest_25 rfl (lv_at hl 3 rfl) ?_
      refine lv_lstore (lv' := [(7, .long p1), (5, .long p0), (0, .ref (h 0)), (1, .long p0), (3, .long p1)]) hx hb d_M_lowest_26 hl (by decide) rfl (fun ls hl => ?_)
      obtain ⟨n3, hw⟩ := hw
      exact k_M_lowest_28 C0 hK hN hA n3 st p0 p1 p0 p1 _ _ hP hD hS ls (lv_sub hl [2, 3, 4, 1, 0] rfl) hw
    · have c2 : ¬ 0 ≤ p1 := (fun q => c2 (lgc_ge.mpr q))
      have hw := hw.2 c2
      refine lv_lload_n hx hb d_M_lowest_20 rfl (lv_at hl 3 rfl) ?_
      refine lv_lneg hx hb d_M_lowest_21 ?_
      refine lv_goto (tgt := 26) hx hb d_M_lowest_22 (by decide) ?_
      refine lv_lstore (lv' := [(7, .long (-p1)), (5, .long p0), (0, .ref (h 0)), (1, .long p0), (3, .long p1)]) hx hb d_M_lowest_26 hl (by decide) rfl (fun ls hl => ?_)
      obtain ⟨n4, hw⟩ := hw
      exact k_M_lowest_28 C0 hK hN hA n4 st p0 p1 p0 (-p1) _ _ hP hD hS ls (lv_sub hl [2, 3, 4, 1, 0] rfl) hw
  · have c1 : ¬ 0 ≤ p0 := (fun q => c1 (lgc_ge.mpr q))
    have hw := hw.2 c1
    refine lv_lload_n hx hb d_M_lowest_6 rfl (lv_at hl 1 rfl) ?_
    refine lv_lneg hx hb d_M_lowest_7 ?_
    refine lv_goto (tgt := 12) hx hb d_M_lowest_8 (by decide) ?_
    refine lv_lstore (lv' := [(5, .long (-p0)), (0, .ref (h 0)), (1, .long p0), (3, .long p1)]) hx hb d_M_lowest_12 hl (by decide) rfl (fun ls hl => ?_)
    refine lv_lload_n hx hb d_M_lowest_14 rfl (lv_at hl 3 rfl) ?_
    refine lv_lconst (v := 0) hx hb d_M_lowest_15 (by decide) ?_
    refine W.lcmp hx hb d_M_lowest_16 ?_
    refine lv_if_ge (tgt := 25) hx hb d_M_lowest_17 (by decide) (fun c5 => ?_) (fun c5 => ?_)
    · have c5 : 0 ≤ p1 := (lgc_ge.mp c5)
      have hw := hw.1 c5
      refine lv_lload_n hx hb d_M_lowest_25 rfl (lv_at hl 3 rfl) ?_
      refine lv_lstore (lv' := [(7, .long p1), (5, .long (-p0)), (0, .ref (h 0)), (1, .long p0), (3, .long p1)]) hx hb d_M_lowest_26 hl (by decide) rfl (fun ls hl => ?_)
      obtain ⟨n6, hw⟩ := hw
      exact k_M_lowest_28 C0 hK hN hA n6 st p0 p1 (-p0) p1 _ _ hP hD hS ls (lv_sub hl [2, 3, 4, 1, 0] rfl) hw
    · have c5 : ¬ 0 ≤ p1 := (fun q => c5 (lgc_ge.mpr q))
      have hw := hw.2 c5
      refine lv_lload_n hx hb d_M_lowest_20 rfl (lv_at hl 3 rfl) ?_
      refine lv_lneg hx hb d_M_lowest_21 ?_
      refine lv_goto (tgt := 26) hx hb d_M_lowest_22 (by decide) ?_
      refine lv_lstore (lv' := [(7, .long (-p1)), (5, .long (-p0)), (0, .ref (h 0)), (1, .long p0), (3, .long p1)]) hx hb d_M_lowest_26 hl (by decide) rfl (fun ls hl => ?_)
      obtain ⟨n7, hw⟩ := hw
      exact k_M_lowest_28 C0 hK hN hA n7 st p0 p1 (-p0) (-p1) _ _ hP hD hS ls (lv_sub hl [2, 3, 4, 1, 0] rfl) hw
def w_M_told (st : MS) (post : Int64 → Prop) (p0 : Int32) : Prop := (¬ p0 = 0 → (post (MS.down st))) ∧ (p0 = 0 → (post (MS.up st)))
set_option maxHeartbeats 4000000 in
set_option maxRecDepth 100000 in
theorem t_M_told (l : Launch) (dC : Nat → ClassId) (dI : Nat → Nat → Nat) (h : Nat → Nat) (k : Nat → ClassId) (st : MS) (p0 : Int32) {post : Int64 → Prop} (hw : w_M_told st post p0) : Met l y_M_told (Cond.code y_M_told prog_4_method_12_code 2 (some .long) :: cw) ({ frames := 0, cells := 0, slots := 0, locals := 0 } : Room) (va_Pc [.ref (h 0), .int p0] (pRo (dC, dI) (WM h k st) (YM k))) (vp_Sl post) 0 0 (fun _ => False) := by
  refine Met.ofW (cc := prog_4_method_12_code) (maxL := 2) (ret := (some .long)) (by decide) rfl ?_
  intro p e s m args below meth c s₁ B hml hv
  obtain ⟨rfl, hP, hK, hN⟩ := hv
  have hx := B.exec
  have hb := B.bytes
  have hr := B.returns
  have hts : ∀ w ∈ cw, w.before _ s = true := fun w h => atoms_spec (ws := (Cond.code y_M_told prog_4_method_12_code 2 (some .long) :: cw)) B.pre w (List.mem_cons_of_mem _ h)
  have hown : s.vm.findClass RM = some m.cls := findClass_of_methodNamed B.named
  have hlocks := B.notSynchronized
  have C0 : cxt p s m _ meth c prog_4_method_12_code 2 RM (some .long) := ⟨hx, hb, hr, hml, hown, hts, hlocks⟩
  have hl := lv_entry ([.ref (h 0), .int p0]) (n := 2) (Nat.le_of_ble_eq_true rfl)
  rw [lg_entry_eq]
  generalize (lg_sl ([.ref (h 0), .int p0]) ++ List.replicate (2 - (lg_sl ([.ref (h 0), .int p0])).length) Slot.unset).toArray = ls at hl ⊢
  have hl : lv_has ls 2 [(0, .ref (h 0)), (1, .int p0)] := hl
  unfold w_M_told at hw
  refine lv_iload_n hx hb d_M_told_0 rfl (lv_at hl 1 rfl) ?_
  refine lv_if_ne (tgt := 11) hx hb d_M_told_1 (by decide) (fun c1 => ?_) (fun c1 => ?_)
  · skip
    have hw := hw.1 c1
    refine lv_aload_n hx hb d_M_told_11 rfl (lv_at hl 0 rfl) ?_
    refine va_get (D := (dC, dI)) (ci := 2) (v := .long (MS.down st)) (C := RM) (T := TM) (N := 15) hx hb hts i_M hown hK hP 0 rfl rfl 10 (by decide) (hts _ m_386) (fun _ h9 => h9) rfl d_M_told_12 ?_
    exact W.lret (v := (MS.down st)) hx hb hr (fun t ht hW => ⟨(MS.down st), rfl, hw, ht⟩) (fun _ h => by cases h) d_M_told_15
  · skip
    have hw := hw.2 c1
    refine lv_aload_n hx hb d_M_told_4 rfl (lv_at hl 0 rfl) ?_
    refine va_get (D := (dC, dI)) (ci := 2) (v := .long (MS.up st)) (C := RM) (T := TM) (N := 15) hx hb hts i_M hown hK hP 0 rfl rfl 9 (by decide) (hts _ m_385) (fun _ h9 => h9) rfl d_M_told_5 ?_
    refine lv_goto (tgt := 15) hx hb d_M_told_8 (by decide) ?_
    exact W.lret (v := (MS.up st)) hx hb hr (fun t ht hW => ⟨(MS.up st), rfl, hw, ht⟩) (fun _ h => by cases h) d_M_told_15
def w_M_below_2 (st : MS) (post : Int32 → Prop) : Nat → Int32 → Prop
  | 0, _ => False
  | n + 1, v1 => ((MS.curves st) ≤ v1 → (post v1)) ∧ (¬ (MS.curves st) ≤ v1 → (vp_in v1 6 ∧ ((((MS.up st) * ((MS.yd st) v1.toNatClampNeg)) ≤ (((MS.yu st) v1.toNatClampNeg) * (MS.down st)) → (post v1)) ∧ (¬ ((MS.up st) * ((MS.yd st) v1.toNatClampNeg)) ≤ (((MS.yu st) v1.toNatClampNeg) * (MS.down st)) → (w_M_below_2 st post n (v1 + 1))))))
set_option maxHeartbeats 4000000 in
set_option maxRecDepth 100000 in
theorem k_M_below_2 {p : Program} {l : Launch} {e : Env} {s : State} {m : MethodId} {args : Array Value} {below : List Frame} {meth : Method} {c : Code} {dC : Nat → ClassId} {dI : Nat → Nat → Nat} {h : Nat → Nat} {k : Nat → ClassId} {st : MS} {post : Int32 → Prop} (C0 : cxt p s m args meth c prog_4_method_17_code 2 RM (some .int)) (hK : va_K (dC, dI) vwCl (YM k) s) (hN : va_Nw nestW s) (hP : va_P (dC, dI) vwCl (WM h k st) s.heap) : ∀ (n : Nat), ∀ (v1 : Int32), ∀ ls, lv_has ls 2 [(0, .ref (h 0)), (1, .int v1)] → w_M_below_2 st post n v1 → W p l e ({ frames := 0, cells := 0, slots := 0, locals := 0 } : Room) s m args below meth c s.heap [] 0 0 (MQ below (vp_Si post) args s 0 0 (fun _ => False)) (F0 m 2 ls []) := by
  obtain ⟨hx, hb, hr, hml, hown, hts, hlocks⟩ := id C0
  intro n
  induction n with
  | zero =>
    intro v1 ls hl hw
    exact False.elim hw
  | succ n ih =>
    intro v1 ls hl hw
    rw [w_M_below_2] at hw
    refine lv_iload_n hx hb d_M_below_2 rfl (lv_at hl 1 rfl) ?_
    refine lv_aload_n hx hb d_M_below_3 rfl (lv_at hl 0 rfl) ?_
    refine va_get (D := (dC, dI)) (ci := 2) (v := .int (MS.curves st)) (C := RM) (T := TM) (N := 15) hx hb hts i_M hown hK hP 0 rfl rfl 6 (by decide) (hts _ m_382) (fun _ h9 => h9) rfl d_M_below_4 ?_
    refine lv_icmp_ge (tgt := 42) hx hb d_M_below_7 (by decide) (fun c2 => ?_) (fun c2 => ?_)
    · skip
      have hw := hw.1 c2
      refine lv_iload_n hx hb d_M_below_42 rfl (lv_at hl 1 rfl) ?_
      exact W.iret (v := v1) hx hb hr (fun t ht hW => ⟨v1, rfl, hw, ht⟩) (fun _ h => by cases h) d_M_below_43
    · skip
      have hw := hw.2 c2
      refine lv_aload_n hx hb d_M_below_10 rfl (lv_at hl 0 rfl) ?_
      refine va_get (D := (dC, dI)) (ci := 2) (v := .ref (h 4)) (C := RM) (T := TM) (N := 15) hx hb hts i_M hown hK hP 0 rfl rfl 7 (by decide) (hts _ m_383) (fun _ h9 => h9) rfl d_M_below_11 ?_
      refine lv_iload_n hx hb d_M_below_14 rfl (lv_at hl 1 rfl) ?_
      obtain ⟨h3, hw⟩ := hw
      refine va_lald hx hb hK hP 4 3 rfl rfl h3 d_M_below_15 ?_
      refine lv_aload_n hx hb d_M_below_16 rfl (lv_at hl 0 rfl) ?_
      refine va_get (D := (dC, dI)) (ci := 2) (v := .long (MS.down st)) (C := RM) (T := TM) (N := 15) hx hb hts i_M hown hK hP 0 rfl rfl 10 (by decide) (hts _ m_386) (fun _ h9 => h9) rfl d_M_below_17 ?_
      refine lv_lmul hx hb d_M_below_20 ?_
      refine lv_aload_n hx hb d_M_below_21 rfl (lv_at hl 0 rfl) ?_
      refine va_get (D := (dC, dI)) (ci := 2) (v := .long (MS.up st)) (C := RM) (T := TM) (N := 15) hx hb hts i_M hown hK hP 0 rfl rfl 9 (by decide) (hts _ m_385) (fun _ h9 => h9) rfl d_M_below_22 ?_
      refine lv_aload_n hx hb d_M_below_25 rfl (lv_at hl 0 rfl) ?_
      refine va_get (D := (dC, dI)) (ci := 2) (v := .ref (h 5)) (C := RM) (T := TM) (N := 15) hx hb hts i_M hown hK hP 0 rfl rfl 8 (by decide) (hts _ m_384) (fun _ h9 => h9) rfl d_M_below_26 ?_
      refine lv_iload_n hx hb d_M_below_29 rfl (lv_at hl 1 rfl) ?_
      refine va_lald hx hb hK hP 5 4 rfl rfl h3 d_M_below_30 ?_
      refine lv_lmul hx hb d_M_below_31 ?_
      refine W.lcmp hx hb d_M_below_32 ?_
      refine lv_if_ge (tgt := 42) hx hb d_M_below_33 (by decide) (fun c4 => ?_) (fun c4 => ?_)
      · have c4 : ((MS.up st) * ((MS.yd st) v1.toNatClampNeg)) ≤ (((MS.yu st) v1.toNatClampNeg) * (MS.down st)) := (lgc_ge.mp c4)
        have hw := hw.1 c4
        refine lv_iload_n hx hb d_M_below_42 rfl (lv_at hl 1 rfl) ?_
        exact W.iret (v := v1) hx hb hr (fun t ht hW => ⟨v1, rfl, hw, ht⟩) (fun _ h => by cases h) d_M_below_43
      · have c4 : ¬ ((MS.up st) * ((MS.yd st) v1.toNatClampNeg)) ≤ (((MS.yu st) v1.toNatClampNeg) * (MS.down st)) := (fun q => c4 (lgc_ge.mpr q))
        have hw := hw.2 c4
        refine lv_iinc (v := (v1 + 1)) (lv' := [(1, .int (v1 + 1)), (0, .ref (h 0))]) hx hb d_M_below_36 hl (k := 1) rfl rfl (by decide) rfl (fun ls hl => ?_)
        refine lv_goto (tgt := 2) hx hb d_M_below_39 (by decide) ?_
        exact ih (v1 + 1) ls (lv_sub hl [1, 0] rfl) hw
def w_M_below (st : MS) (post : Int32 → Prop) : Prop := ∃ z, w_M_below_2 st post z 0
set_option maxHeartbeats 4000000 in
set_option maxRecDepth 100000 in
theorem t_M_below (l : Launch) (dC : Nat → ClassId) (dI : Nat → Nat → Nat) (h : Nat → Nat) (k : Nat → ClassId) (st : MS) {post : Int32 → Prop} (hw : w_M_below st post) : Met l y_M_below (Cond.code y_M_below prog_4_method_17_code 2 (some .int) :: cw) ({ frames := 0, cells := 0, slots := 0, locals := 0 } : Room) (va_Pc [.ref (h 0)] (pRo (dC, dI) (WM h k st) (YM k))) (vp_Si post) 0 0 (fun _ => False) := by
  refine Met.ofW (cc := prog_4_method_17_code) (maxL := 2) (ret := (some .int)) (by decide) rfl ?_
  intro p e s m args below meth c s₁ B hml hv
  obtain ⟨rfl, hP, hK, hN⟩ := hv
  have hx := B.exec
  have hb := B.bytes
  have hr := B.returns
  have hts : ∀ w ∈ cw, w.before _ s = true := fun w h => atoms_spec (ws := (Cond.code y_M_below prog_4_method_17_code 2 (some .int) :: cw)) B.pre w (List.mem_cons_of_mem _ h)
  have hown : s.vm.findClass RM = some m.cls := findClass_of_methodNamed B.named
  have hlocks := B.notSynchronized
  have C0 : cxt p s m _ meth c prog_4_method_17_code 2 RM (some .int) := ⟨hx, hb, hr, hml, hown, hts, hlocks⟩
  have hl := lv_entry ([.ref (h 0)]) (n := 2) (Nat.le_of_ble_eq_true rfl)
  rw [lg_entry_eq]
  generalize (lg_sl ([.ref (h 0)]) ++ List.replicate (2 - (lg_sl ([.ref (h 0)])).length) Slot.unset).toArray = ls at hl ⊢
  have hl : lv_has ls 2 [(0, .ref (h 0))] := hl
  unfold w_M_below at hw
  refine lv_iconst (v := 0) hx hb d_M_below_0 (by decide) ?_
  refine lv_istore_n (lv' := [(1, .int 0), (0, .ref (h 0))]) hx hb d_M_below_1 rfl hl (by decide) rfl (fun ls hl => ?_)
  obtain ⟨n1, hw⟩ := hw
  exact k_M_below_2 C0 hK hN hP n1 0 ls (lv_sub hl [1, 0] rfl) hw
