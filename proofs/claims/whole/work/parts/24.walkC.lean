def w_C_signOf (post : Int32 → Prop) (p0 : Int64) : Prop := (¬ p0 = 0 → ((p0 ≤ 0 → (post (-1))) ∧ (¬ p0 ≤ 0 → (post 1)))) ∧ (p0 = 0 → (post 0))
set_option maxHeartbeats 4000000 in
set_option maxRecDepth 100000 in
theorem t_C_signOf (l : Launch) (p0 : Int64) {post : Int32 → Prop} (hw : w_C_signOf post p0) : Met l y_C_signOf (Cond.code y_C_signOf prog_1_method_30_code 2 (some .int) :: cw) ({ frames := 0, cells := 0, slots := 0, locals := 0 } : Room) (va_Pc [.long p0] (fun _ => True)) (vp_Si post) 0 0 (fun _ => False) := by
  refine Met.ofW (cc := prog_1_method_30_code) (maxL := 2) (ret := (some .int)) (by decide) rfl ?_
  intro p e s m args below meth c s₁ B hml hv
  obtain ⟨rfl, -⟩ := hv
  have hx := B.exec
  have hb := B.bytes
  have hr := B.returns
  have hts : ∀ w ∈ cw, w.before _ s = true := fun w h => atoms_spec (ws := (Cond.code y_C_signOf prog_1_method_30_code 2 (some .int) :: cw)) B.pre w (List.mem_cons_of_mem _ h)
  have hown : s.vm.findClass RC = some m.cls := findClass_of_methodNamed B.named
  have hlocks := B.notSynchronized
  have C0 : cxt p s m _ meth c prog_1_method_30_code 2 RC (some .int) := ⟨hx, hb, hr, hml, hown, hts, hlocks⟩
  have hl := lv_entry ([.long p0]) (n := 2) (Nat.le_of_ble_eq_true rfl)
  rw [lg_entry_eq]
  generalize (lg_sl ([.long p0]) ++ List.replicate (2 - (lg_sl ([.long p0])).length) Slot.unset).toArray = ls at hl ⊢
  have hl : lv_has ls 2 [(0, .long p0)] := hl
  unfold w_C_signOf at hw
  refine lv_lload_n hx hb d_C_signOf_0 rfl (lv_at hl 0 rfl) ?_
  refine lv_lconst (v := 0) hx hb d_C_signOf_1 (by decide) ?_
  refine W.lcmp hx hb d_C_signOf_2 ?_
  refine lv_if_ne (tgt := 8) hx hb d_C_signOf_3 (by decide) (fun c1 => ?_) (fun c1 => ?_)
  · have c1 : ¬ p0 = 0 := (fun q => c1 (lgc_eq.mpr q))
    have hw := hw.1 c1
    refine lv_lload_n hx hb d_C_signOf_8 rfl (lv_at hl 0 rfl) ?_
    refine lv_lconst (v := 0) hx hb d_C_signOf_9 (by decide) ?_
    refine W.lcmp hx hb d_C_signOf_10 ?_
    refine lv_if_le (tgt := 18) hx hb d_C_signOf_11 (by decide) (fun c2 => ?_) (fun c2 => ?_)
    · have c2 : p0 ≤ 0 := (lgc_le.mp c2)
      have hw := hw.1 c2
      refine lv_iconst (v := (-1)) hx hb d_C_signOf_18 (by decide) ?_
      exact W.iret (v := (-1)) hx hb hr (fun t ht hW => ⟨(-1), rfl, hw, ht⟩) (fun _ h => by cases h) d_C_signOf_19
    · have c2 : ¬ p0 ≤ 0 := (fun q => c2 (lgc_le.mpr q))
      have hw := hw.2 c2
      refine lv_iconst (v := 1) hx hb d_C_signOf_14 (by decide) ?_
      refine lv_goto (tgt := 19) hx hb d_C_signOf_15 (by decide) ?_
      exact W.iret (v := 1) hx hb hr (fun t ht hW => ⟨1, rfl, hw, ht⟩) (fun _ h => by cases h) d_C_signOf_19
  · have c1 : p0 = 0 := (lgc_eq.mp c1)
    have hw := hw.2 c1
    refine lv_iconst (v := 0) hx hb d_C_signOf_6 (by decide) ?_
    exact W.iret (v := 0) hx hb hr (fun t ht hW => ⟨0, rfl, hw, ht⟩) (fun _ h => by cases h) d_C_signOf_7
def w_C_isFactor (post : Int32 → Prop) (p0 : Int32) : Prop := (p0 < (-6) → (post 0)) ∧ (¬ p0 < (-6) → ((6 < p0 → (post 0)) ∧ (¬ 6 < p0 → (post 1))))
set_option maxHeartbeats 4000000 in
set_option maxRecDepth 100000 in
theorem t_C_isFactor (l : Launch) (p0 : Int32) {post : Int32 → Prop} (hw : w_C_isFactor post p0) : Met l y_C_isFactor (Cond.code y_C_isFactor prog_1_method_15_code 1 (some .boolean) :: cw) ({ frames := 0, cells := 0, slots := 0, locals := 0 } : Room) (va_Pc [.int p0] (fun _ => True)) (vp_Si post) 0 0 (fun _ => False) := by
  refine Met.ofW (cc := prog_1_method_15_code) (maxL := 1) (ret := (some .boolean)) (by decide) rfl ?_
  intro p e s m args below meth c s₁ B hml hv
  obtain ⟨rfl, -⟩ := hv
  have hx := B.exec
  have hb := B.bytes
  have hr := B.returns
  have hts : ∀ w ∈ cw, w.before _ s = true := fun w h => atoms_spec (ws := (Cond.code y_C_isFactor prog_1_method_15_code 1 (some .boolean) :: cw)) B.pre w (List.mem_cons_of_mem _ h)
  have hown : s.vm.findClass RC = some m.cls := findClass_of_methodNamed B.named
  have hlocks := B.notSynchronized
  have C0 : cxt p s m _ meth c prog_1_method_15_code 1 RC (some .boolean) := ⟨hx, hb, hr, hml, hown, hts, hlocks⟩
  have hl := lv_entry ([.int p0]) (n := 1) (Nat.le_of_ble_eq_true rfl)
  rw [lg_entry_eq]
  generalize (lg_sl ([.int p0]) ++ List.replicate (1 - (lg_sl ([.int p0])).length) Slot.unset).toArray = ls at hl ⊢
  have hl : lv_has ls 1 [(0, .int p0)] := hl
  unfold w_C_isFactor at hw
  refine lv_iload_n hx hb d_C_isFactor_0 rfl (lv_at hl 0 rfl) ?_
  refine lv_bipush (v := (-6)) hx hb d_C_isFactor_1 (by decide) ?_
  refine lv_icmp_lt (tgt := 16) hx hb d_C_isFactor_3 (by decide) (fun c1 => ?_) (fun c1 => ?_)
  · skip
    have hw := hw.1 c1
    refine lv_iconst (v := 0) hx hb d_C_isFactor_16 (by decide) ?_
    exact W.zret (v := 0) hx hb hr rfl (fun t ht hW => ⟨0, rfl, hw, ht⟩) (fun _ h => by cases h) d_C_isFactor_17
  · skip
    have hw := hw.2 c1
    refine lv_iload_n hx hb d_C_isFactor_6 rfl (lv_at hl 0 rfl) ?_
    refine lv_bipush (v := 6) hx hb d_C_isFactor_7 (by decide) ?_
    refine lv_icmp_gt (tgt := 16) hx hb d_C_isFactor_9 (by decide) (fun c2 => ?_) (fun c2 => ?_)
    · skip
      have hw := hw.1 c2
      refine lv_iconst (v := 0) hx hb d_C_isFactor_16 (by decide) ?_
      exact W.zret (v := 0) hx hb hr rfl (fun t ht hW => ⟨0, rfl, hw, ht⟩) (fun _ h => by cases h) d_C_isFactor_17
    · skip
      have hw := hw.2 c2
      refine lv_iconst (v := 1) hx hb d_C_isFactor_12 (by decide) ?_
      refine lv_goto (tgt := 17) hx hb d_C_isFactor_13 (by decide) ?_
      exact W.zret (v := 1) hx hb hr rfl (fun t ht hW => ⟨1, rfl, hw, ht⟩) (fun _ h => by cases h) d_C_isFactor_17
def w_C_isNear (post : Int32 → Prop) (p0 : Int32) : Prop := (p0 < (-100) → (post 0)) ∧ (¬ p0 < (-100) → ((100 < p0 → (post 0)) ∧ (¬ 100 < p0 → (post 1))))
set_option maxHeartbeats 4000000 in
set_option maxRecDepth 100000 in
theorem t_C_isNear (l : Launch) (p0 : Int32) {post : Int32 → Prop} (hw : w_C_isNear post p0) : Met l y_C_isNear (Cond.code y_C_isNear prog_1_method_16_code 1 (some .boolean) :: cw) ({ frames := 0, cells := 0, slots := 0, locals := 0 } : Room) (va_Pc [.int p0] (fun _ => True)) (vp_Si post) 0 0 (fun _ => False) := by
  refine Met.ofW (cc := prog_1_method_16_code) (maxL := 1) (ret := (some .boolean)) (by decide) rfl ?_
  intro p e s m args below meth c s₁ B hml hv
  obtain ⟨rfl, -⟩ := hv
  have hx := B.exec
  have hb := B.bytes
  have hr := B.returns
  have hts : ∀ w ∈ cw, w.before _ s = true := fun w h => atoms_spec (ws := (Cond.code y_C_isNear prog_1_method_16_code 1 (some .boolean) :: cw)) B.pre w (List.mem_cons_of_mem _ h)
  have hown : s.vm.findClass RC = some m.cls := findClass_of_methodNamed B.named
  have hlocks := B.notSynchronized
  have C0 : cxt p s m _ meth c prog_1_method_16_code 1 RC (some .boolean) := ⟨hx, hb, hr, hml, hown, hts, hlocks⟩
  have hl := lv_entry ([.int p0]) (n := 1) (Nat.le_of_ble_eq_true rfl)
  rw [lg_entry_eq]
  generalize (lg_sl ([.int p0]) ++ List.replicate (1 - (lg_sl ([.int p0])).length) Slot.unset).toArray = ls at hl ⊢
  have hl : lv_has ls 1 [(0, .int p0)] := hl
  unfold w_C_isNear at hw
  refine lv_iload_n hx hb d_C_isNear_0 rfl (lv_at hl 0 rfl) ?_
  refine lv_bipush (v := (-100)) hx hb d_C_isNear_1 (by decide) ?_
  refine lv_icmp_lt (tgt := 16) hx hb d_C_isNear_3 (by decide) (fun c1 => ?_) (fun c1 => ?_)
  · skip
    have hw := hw.1 c1
    refine lv_iconst (v := 0) hx hb d_C_isNear_16 (by decide) ?_
    exact W.zret (v := 0) hx hb hr rfl (fun t ht hW => ⟨0, rfl, hw, ht⟩) (fun _ h => by cases h) d_C_isNear_17
  · skip
    have hw := hw.2 c1
    refine lv_iload_n hx hb d_C_isNear_6 rfl (lv_at hl 0 rfl) ?_
    refine lv_bipush (v := 100) hx hb d_C_isNear_7 (by decide) ?_
    refine lv_icmp_gt (tgt := 16) hx hb d_C_isNear_9 (by decide) (fun c2 => ?_) (fun c2 => ?_)
    · skip
      have hw := hw.1 c2
      refine lv_iconst (v := 0) hx hb d_C_isNear_16 (by decide) ?_
      exact W.zret (v := 0) hx hb hr rfl (fun t ht hW => ⟨0, rfl, hw, ht⟩) (fun _ h => by cases h) d_C_isNear_17
    · skip
      have hw := hw.2 c2
      refine lv_iconst (v := 1) hx hb d_C_isNear_12 (by decide) ?_
      refine lv_goto (tgt := 17) hx hb d_C_isNear_13 (by decide) ?_
      exact W.zret (v := 1) hx hb hr rfl (fun t ht hW => ⟨1, rfl, hw, ht⟩) (fun _ h => by cases h) d_C_isNear_17
def w_C_isPart (post : Int32 → Prop) (p0 : Int32) : Prop := (p0 = 0 → (post 1)) ∧ (¬ p0 = 0 → ((¬ p0 = 1 → (post 0)) ∧ (p0 = 1 → (post 1))))
set_option maxHeartbeats 4000000 in
set_option maxRecDepth 100000 in
theorem t_C_isPart (l : Launch) (p0 : Int32) {post : Int32 → Prop} (hw : w_C_isPart post p0) : Met l y_C_isPart (Cond.code y_C_isPart prog_1_method_17_code 1 (some .boolean) :: cw) ({ frames := 0, cells := 0, slots := 0, locals := 0 } : Room) (va_Pc [.int p0] (fun _ => True)) (vp_Si post) 0 0 (fun _ => False) := by
  refine Met.ofW (cc := prog_1_method_17_code) (maxL := 1) (ret := (some .boolean)) (by decide) rfl ?_
  intro p e s m args below meth c s₁ B hml hv
  obtain ⟨rfl, -⟩ := hv
  have hx := B.exec
  have hb := B.bytes
  have hr := B.returns
  have hts : ∀ w ∈ cw, w.before _ s = true := fun w h => atoms_spec (ws := (Cond.code y_C_isPart prog_1_method_17_code 1 (some .boolean) :: cw)) B.pre w (List.mem_cons_of_mem _ h)
  have hown : s.vm.findClass RC = some m.cls := findClass_of_methodNamed B.named
  have hlocks := B.notSynchronized
  have C0 : cxt p s m _ meth c prog_1_method_17_code 1 RC (some .boolean) := ⟨hx, hb, hr, hml, hown, hts, hlocks⟩
  have hl := lv_entry ([.int p0]) (n := 1) (Nat.le_of_ble_eq_true rfl)
  rw [lg_entry_eq]
  generalize (lg_sl ([.int p0]) ++ List.replicate (1 - (lg_sl ([.int p0])).length) Slot.unset).toArray = ls at hl ⊢
  have hl : lv_has ls 1 [(0, .int p0)] := hl
  unfold w_C_isPart at hw
  refine lv_iload_n hx hb d_C_isPart_0 rfl (lv_at hl 0 rfl) ?_
  refine lv_if_eq (tgt := 9) hx hb d_C_isPart_1 (by decide) (fun c1 => ?_) (fun c1 => ?_)
  · skip
    have hw := hw.1 c1
    refine lv_iconst (v := 1) hx hb d_C_isPart_9 (by decide) ?_
    refine lv_goto (tgt := 14) hx hb d_C_isPart_10 (by decide) ?_
    exact W.zret (v := 1) hx hb hr rfl (fun t ht hW => ⟨1, rfl, hw, ht⟩) (fun _ h => by cases h) d_C_isPart_14
  · skip
    have hw := hw.2 c1
    refine lv_iload_n hx hb d_C_isPart_4 rfl (lv_at hl 0 rfl) ?_
    refine lv_iconst (v := 1) hx hb d_C_isPart_5 (by decide) ?_
    refine lv_icmp_ne (tgt := 13) hx hb d_C_isPart_6 (by decide) (fun c2 => ?_) (fun c2 => ?_)
    · skip
      have hw := hw.1 c2
      refine lv_iconst (v := 0) hx hb d_C_isPart_13 (by decide) ?_
      exact W.zret (v := 0) hx hb hr rfl (fun t ht hW => ⟨0, rfl, hw, ht⟩) (fun _ h => by cases h) d_C_isPart_14
    · skip
      have hw := hw.2 c2
      refine lv_iconst (v := 1) hx hb d_C_isPart_9 (by decide) ?_
      refine lv_goto (tgt := 14) hx hb d_C_isPart_10 (by decide) ?_
      exact W.zret (v := 1) hx hb hr rfl (fun t ht hW => ⟨1, rfl, hw, ht⟩) (fun _ h => by cases h) d_C_isPart_14
def w_C_wantFor (post : Int32 → Prop) (p0 : Int32) : Prop := (¬ p0 = 0 → ((p0 ≤ 0 → (post 2)) ∧ (¬ p0 ≤ 0 → (post 1)))) ∧ (p0 = 0 → (post 3))
set_option maxHeartbeats 4000000 in
set_option maxRecDepth 100000 in
theorem t_C_wantFor (l : Launch) (p0 : Int32) {post : Int32 → Prop} (hw : w_C_wantFor post p0) : Met l y_C_wantFor (Cond.code y_C_wantFor prog_1_method_33_code 1 (some .int) :: cw) ({ frames := 0, cells := 0, slots := 0, locals := 0 } : Room) (va_Pc [.int p0] (fun _ => True)) (vp_Si post) 0 0 (fun _ => False) := by
  refine Met.ofW (cc := prog_1_method_33_code) (maxL := 1) (ret := (some .int)) (by decide) rfl ?_
  intro p e s m args below meth c s₁ B hml hv
  obtain ⟨rfl, -⟩ := hv
  have hx := B.exec
  have hb := B.bytes
  have hr := B.returns
  have hts : ∀ w ∈ cw, w.before _ s = true := fun w h => atoms_spec (ws := (Cond.code y_C_wantFor prog_1_method_33_code 1 (some .int) :: cw)) B.pre w (List.mem_cons_of_mem _ h)
  have hown : s.vm.findClass RC = some m.cls := findClass_of_methodNamed B.named
  have hlocks := B.notSynchronized
  have C0 : cxt p s m _ meth c prog_1_method_33_code 1 RC (some .int) := ⟨hx, hb, hr, hml, hown, hts, hlocks⟩
  have hl := lv_entry ([.int p0]) (n := 1) (Nat.le_of_ble_eq_true rfl)
  rw [lg_entry_eq]
  generalize (lg_sl ([.int p0]) ++ List.replicate (1 - (lg_sl ([.int p0])).length) Slot.unset).toArray = ls at hl ⊢
  have hl : lv_has ls 1 [(0, .int p0)] := hl
  unfold w_C_wantFor at hw
  refine lv_iload_n hx hb d_C_wantFor_0 rfl (lv_at hl 0 rfl) ?_
  refine lv_if_ne (tgt := 6) hx hb d_C_wantFor_1 (by decide) (fun c1 => ?_) (fun c1 => ?_)
  · skip
    have hw := hw.1 c1
    refine lv_iload_n hx hb d_C_wantFor_6 rfl (lv_at hl 0 rfl) ?_
    refine lv_if_le (tgt := 14) hx hb d_C_wantFor_7 (by decide) (fun c2 => ?_) (fun c2 => ?_)
    · skip
      have hw := hw.1 c2
      refine lv_iconst (v := 2) hx hb d_C_wantFor_14 (by decide) ?_
      exact W.iret (v := 2) hx hb hr (fun t ht hW => ⟨2, rfl, hw, ht⟩) (fun _ h => by cases h) d_C_wantFor_15
    · skip
      have hw := hw.2 c2
      refine lv_iconst (v := 1) hx hb d_C_wantFor_10 (by decide) ?_
      refine lv_goto (tgt := 15) hx hb d_C_wantFor_11 (by decide) ?_
      exact W.iret (v := 1) hx hb hr (fun t ht hW => ⟨1, rfl, hw, ht⟩) (fun _ h => by cases h) d_C_wantFor_15
  · skip
    have hw := hw.2 c1
    refine lv_iconst (v := 3) hx hb d_C_wantFor_4 (by decide) ?_
    exact W.iret (v := 3) hx hb hr (fun t ht hW => ⟨3, rfl, hw, ht⟩) (fun _ h => by cases h) d_C_wantFor_5
def w_C_isLine (st : CS) (post : Int32 → Prop) (p0 : Int32) : Prop := (p0 < 0 → (post 0)) ∧ (¬ p0 < 0 → (((CS.lc st) ≤ p0 → (post 0)) ∧ (¬ (CS.lc st) ≤ p0 → (post 1))))
set_option maxHeartbeats 4000000 in
set_option maxRecDepth 100000 in
theorem t_C_isLine (l : Launch) (dC : Nat → ClassId) (dI : Nat → Nat → Nat) (h : Nat → Nat) (k : Nat → ClassId) (st : CS) (p0 : Int32) {post : Int32 → Prop} (hw : w_C_isLine st post p0) : Met l y_C_isLine (Cond.code y_C_isLine prog_1_method_18_code 2 (some .boolean) :: cw) ({ frames := 0, cells := 0, slots := 0, locals := 0 } : Room) (va_Pc [.ref (h 0), .int p0] (pRo (dC, dI) (WC h k st) (YC k))) (vp_Si post) 0 0 (fun _ => False) := by
  refine Met.ofW (cc := prog_1_method_18_code) (maxL := 2) (ret := (some .boolean)) (by decide) rfl ?_
  intro p e s m args below meth c s₁ B hml hv
  obtain ⟨rfl, hP, hK, hN⟩ := hv
  have hx := B.exec
  have hb := B.bytes
  have hr := B.returns
  have hts : ∀ w ∈ cw, w.before _ s = true := fun w h => atoms_spec (ws := (Cond.code y_C_isLine prog_1_method_18_code 2 (some .boolean) :: cw)) B.pre w (List.mem_cons_of_mem _ h)
  have hown : s.vm.findClass RC = some m.cls := findClass_of_methodNamed B.named
  have hlocks := B.notSynchronized
  have C0 : cxt p s m _ meth c prog_1_method_18_code 2 RC (some .boolean) := ⟨hx, hb, hr, hml, hown, hts, hlocks⟩
  have hl := lv_entry ([.ref (h 0), .int p0]) (n := 2) (Nat.le_of_ble_eq_true rfl)
  rw [lg_entry_eq]
  generalize (lg_sl ([.ref (h 0), .int p0]) ++ List.replicate (2 - (lg_sl ([.ref (h 0), .int p0])).length) Slot.unset).toArray = ls at hl ⊢
  have hl : lv_has ls 2 [(0, .ref (h 0)), (1, .int p0)] := hl
  unfold w_C_isLine at hw
  refine lv_iload_n hx hb d_C_isLine_0 rfl (lv_at hl 1 rfl) ?_
  refine lv_if_lt (tgt := 16) hx hb d_C_isLine_1 (by decide) (fun c1 => ?_) (fun c1 => ?_)
  · skip
    have hw := hw.1 c1
    refine lv_iconst (v := 0) hx hb d_C_isLine_16 (by decide) ?_
    exact W.zret (v := 0) hx hb hr rfl (fun t ht hW => ⟨0, rfl, hw, ht⟩) (fun _ h => by cases h) d_C_isLine_17
  · skip
    have hw := hw.2 c1
    refine lv_iload_n hx hb d_C_isLine_4 rfl (lv_at hl 1 rfl) ?_
    refine lv_aload_n hx hb d_C_isLine_5 rfl (lv_at hl 0 rfl) ?_
    refine va_get (D := (dC, dI)) (ci := 1) (v := .int (CS.lc st)) (C := RC) (T := TC) (N := 10) hx hb hts i_C hown hK hP 0 rfl rfl 3 (by decide) (hts _ m_108) (fun _ h9 => h9) rfl d_C_isLine_6 ?_
    refine lv_icmp_ge (tgt := 16) hx hb d_C_isLine_9 (by decide) (fun c2 => ?_) (fun c2 => ?_)
    · skip
      have hw := hw.1 c2
      refine lv_iconst (v := 0) hx hb d_C_isLine_16 (by decide) ?_
      exact W.zret (v := 0) hx hb hr rfl (fun t ht hW => ⟨0, rfl, hw, ht⟩) (fun _ h => by cases h) d_C_isLine_17
    · skip
      have hw := hw.2 c2
      refine lv_iconst (v := 1) hx hb d_C_isLine_12 (by decide) ?_
      refine lv_goto (tgt := 17) hx hb d_C_isLine_13 (by decide) ?_
      exact W.zret (v := 1) hx hb hr rfl (fun t ht hW => ⟨1, rfl, hw, ht⟩) (fun _ h => by cases h) d_C_isLine_17
def w_C_stripCount (st : CS) (post : Int32 → Prop) : Prop := post ((2 * (KS.cnt (CS.cu st))) + 1)
set_option maxHeartbeats 4000000 in
set_option maxRecDepth 100000 in
theorem t_C_stripCount (l : Launch) (dC : Nat → ClassId) (dI : Nat → Nat → Nat) (h : Nat → Nat) (k : Nat → ClassId) (st : CS) {post : Int32 → Prop} (hw : w_C_stripCount st post) : Met l y_C_stripCount (Cond.code y_C_stripCount prog_1_method_20_code 1 (some .int) :: cw) ({ frames := 0, cells := 0, slots := 0, locals := 0 } : Room) (va_Pc [.ref (h 0)] (pRo (dC, dI) (WC h k st) (YC k))) (vp_Si post) 0 0 (fun _ => False) := by
  refine Met.ofW (cc := prog_1_method_20_code) (maxL := 1) (ret := (some .int)) (by decide) rfl ?_
  intro p e s m args below meth c s₁ B hml hv
  obtain ⟨rfl, hP, hK, hN⟩ := hv
  have hx := B.exec
  have hb := B.bytes
  have hr := B.returns
  have hts : ∀ w ∈ cw, w.before _ s = true := fun w h => atoms_spec (ws := (Cond.code y_C_stripCount prog_1_method_20_code 1 (some .int) :: cw)) B.pre w (List.mem_cons_of_mem _ h)
  have hown : s.vm.findClass RC = some m.cls := findClass_of_methodNamed B.named
  have hlocks := B.notSynchronized
  have C0 : cxt p s m _ meth c prog_1_method_20_code 1 RC (some .int) := ⟨hx, hb, hr, hml, hown, hts, hlocks⟩
  have hl := lv_entry ([.ref (h 0)]) (n := 1) (Nat.le_of_ble_eq_true rfl)
  rw [lg_entry_eq]
  generalize (lg_sl ([.ref (h 0)]) ++ List.replicate (1 - (lg_sl ([.ref (h 0)])).length) Slot.unset).toArray = ls at hl ⊢
  have hl : lv_has ls 1 [(0, .ref (h 0))] := hl
  unfold w_C_stripCount at hw
  refine lv_iconst (v := 2) hx hb d_C_stripCount_0 (by decide) ?_
  refine lv_aload_n hx hb d_C_stripCount_1 rfl (lv_at hl 0 rfl) ?_
  refine va_get (D := (dC, dI)) (ci := 1) (v := .ref (h 4)) (C := RC) (T := TC) (N := 10) hx hb hts i_C hown hK hP 0 rfl rfl 4 (by decide) (hts _ m_109) (fun _ h9 => h9) rfl d_C_stripCount_2 ?_
  refine va_getN (D := (dC, dI)) (ci := 0) (v := .int (KS.cnt (CS.cu st))) (C := RK) (T := TK) (N := 3) hx hb hts i_K hown hK hP 4 rfl rfl 2 (by decide) (va_Nw.use rfl hN) (fun _ h9 => h9) rfl d_C_stripCount_5 ?_
  refine lv_imul hx hb d_C_stripCount_8 ?_
  refine lv_iconst (v := 1) hx hb d_C_stripCount_9 (by decide) ?_
  refine lv_iadd hx hb d_C_stripCount_10 ?_
  exact W.iret (v := ((2 * (KS.cnt (CS.cu st))) + 1)) hx hb hr (fun t ht hW => ⟨((2 * (KS.cnt (CS.cu st))) + 1), rfl, hw, ht⟩) (fun _ h => by cases h) d_C_stripCount_11
def w_C_isCell (st : CS) (post : Int32 → Prop) (p0 : Int32) : Prop := (p0 < 0 → (post 0)) ∧ (¬ p0 < 0 → (w_C_stripCount st (fun r2 => (vp_in r2 32 ∧ ((((CS.fc st) r2.toNatClampNeg) ≤ p0 → (post 0)) ∧ (¬ ((CS.fc st) r2.toNatClampNeg) ≤ p0 → (post 1))))) ))
set_option maxHeartbeats 4000000 in
set_option maxRecDepth 100000 in
theorem t_C_isCell (l : Launch) (dC : Nat → ClassId) (dI : Nat → Nat → Nat) (h : Nat → Nat) (k : Nat → ClassId) (st : CS) (p0 : Int32) {post : Int32 → Prop} (hw : w_C_isCell st post p0) : Met l y_C_isCell (Cond.code y_C_isCell prog_1_method_19_code 2 (some .boolean) :: cw) ({ frames := 1, cells := 0, slots := 0, locals := 20 } : Room) (va_Pc [.ref (h 0), .int p0] (pRo (dC, dI) (WC h k st) (YC k))) (vp_Si post) 0 0 (fun _ => False) := by
  refine Met.ofW (cc := prog_1_method_19_code) (maxL := 2) (ret := (some .boolean)) (by decide) rfl ?_
  intro p e s m args below meth c s₁ B hml hv
  obtain ⟨rfl, hP, hK, hN⟩ := hv
  have hx := B.exec
  have hb := B.bytes
  have hr := B.returns
  have hts : ∀ w ∈ cw, w.before _ s = true := fun w h => atoms_spec (ws := (Cond.code y_C_isCell prog_1_method_19_code 2 (some .boolean) :: cw)) B.pre w (List.mem_cons_of_mem _ h)
  have hown : s.vm.findClass RC = some m.cls := findClass_of_methodNamed B.named
  have hlocks := B.notSynchronized
  have C0 : cxt p s m _ meth c prog_1_method_19_code 2 RC (some .boolean) := ⟨hx, hb, hr, hml, hown, hts, hlocks⟩
  have hl := lv_entry ([.ref (h 0), .int p0]) (n := 2) (Nat.le_of_ble_eq_true rfl)
  rw [lg_entry_eq]
  generalize (lg_sl ([.ref (h 0), .int p0]) ++ List.replicate (2 - (lg_sl ([.ref (h 0), .int p0])).length) Slot.unset).toArray = ls at hl ⊢
  have hl : lv_has ls 2 [(0, .ref (h 0)), (1, .int p0)] := hl
  unfold w_C_isCell at hw
  refine lv_iload_n hx hb d_C_isCell_0 rfl (lv_at hl 1 rfl) ?_
  refine lv_if_lt (tgt := 21) hx hb d_C_isCell_1 (by decide) (fun c1 => ?_) (fun c1 => ?_)
  · skip
    have hw := hw.1 c1
    refine lv_iconst (v := 0) hx hb d_C_isCell_21 (by decide) ?_
    exact W.zret (v := 0) hx hb hr rfl (fun t ht hW => ⟨0, rfl, hw, ht⟩) (fun _ h => by cases h) d_C_isCell_22
  · skip
    have hw := hw.2 c1
    refine lv_iload_n hx hb d_C_isCell_4 rfl (lv_at hl 1 rfl) ?_
    refine lv_aload_n hx hb d_C_isCell_5 rfl (lv_at hl 0 rfl) ?_
    refine va_get (D := (dC, dI)) (ci := 1) (v := .ref (h 13)) (C := RC) (T := TC) (N := 10) hx hb hts i_C hown hK hP 0 rfl rfl 9 (by decide) (hts _ m_114) (fun _ h9 => h9) rfl d_C_isCell_6 ?_
    refine lv_aload_n hx hb d_C_isCell_9 rfl (lv_at hl 0 rfl) ?_
    refine vp_callSi (va_Run.run (va_runV (As := []) (rest := [.ref (h 13), .int p0]) ⟨hx, hb, hml, hown, hts⟩ (t_C_stripCount l dC dI h k st  hw) (cwV 0 hts (gV m_64 m_66 s_3 m_1 (cw_call m_67)) rfl rfl rfl (by decide +kernel) ⟨Nat.le_of_ble_eq_true rfl, Nat.le_of_ble_eq_true rfl⟩) ⟨pRo_bl, va_recv hK hP (ci := 1) (q0 := 0) rfl rfl, fun U hU hW => ⟨rfl, pRo_at hP hK hN hU hW⟩⟩ rfl rfl hl.1 rfl (lv_room (Nat.le_of_ble_eq_true rfl)) d_C_isCell_10 ⟨Nat.le_of_ble_eq_true rfl, Nat.le_of_ble_eq_true rfl⟩)) (fun r2 hw => ?_)
    obtain ⟨h3, hw⟩ := hw
    refine va_iald hx hb hK hP 13 10 rfl rfl h3 d_C_isCell_13 ?_
    refine lv_icmp_ge (tgt := 21) hx hb d_C_isCell_14 (by decide) (fun c4 => ?_) (fun c4 => ?_)
    · skip
      have hw := hw.1 c4
      refine lv_iconst (v := 0) hx hb d_C_isCell_21 (by decide) ?_
      exact W.zret (v := 0) hx hb hr rfl (fun t ht hW => ⟨0, rfl, hw, ht⟩) (fun _ h => by cases h) d_C_isCell_22
    · skip
      have hw := hw.2 c4
      refine lv_iconst (v := 1) hx hb d_C_isCell_17 (by decide) ?_
      refine lv_goto (tgt := 22) hx hb d_C_isCell_18 (by decide) ?_
      exact W.zret (v := 1) hx hb hr rfl (fun t ht hW => ⟨1, rfl, hw, ht⟩) (fun _ h => by cases h) d_C_isCell_22
def w_C_cellsOf (st : CS) (post : Int32 → Prop) (p0 : Int32) : Prop := vp_in (p0 + 1) 32 ∧ (vp_in p0 32 ∧ (post (((CS.fc st) (p0 + 1).toNatClampNeg) - ((CS.fc st) p0.toNatClampNeg))))
set_option maxHeartbeats 4000000 in
set_option maxRecDepth 100000 in
theorem t_C_cellsOf (l : Launch) (dC : Nat → ClassId) (dI : Nat → Nat → Nat) (h : Nat → Nat) (k : Nat → ClassId) (st : CS) (p0 : Int32) {post : Int32 → Prop} (hw : w_C_cellsOf st post p0) : Met l y_C_cellsOf (Cond.code y_C_cellsOf prog_1_method_21_code 2 (some .int) :: cw) ({ frames := 0, cells := 0, slots := 0, locals := 0 } : Room) (va_Pc [.ref (h 0), .int p0] (pRo (dC, dI) (WC h k st) (YC k))) (vp_Si post) 0 0 (fun _ => False) := by
  refine Met.ofW (cc := prog_1_method_21_code) (maxL := 2) (ret := (some .int)) (by decide) rfl ?_
  intro p e s m args below meth c s₁ B hml hv
  obtain ⟨rfl, hP, hK, hN⟩ := hv
  have hx := B.exec
  have hb := B.bytes
  have hr := B.returns
  have hts : ∀ w ∈ cw, w.before _ s = true := fun w h => atoms_spec (ws := (Cond.code y_C_cellsOf prog_1_method_21_code 2 (some .int) :: cw)) B.pre w (List.mem_cons_of_mem _ h)
  have hown : s.vm.findClass RC = some m.cls := findClass_of_methodNamed B.named
  have hlocks := B.notSynchronized
  have C0 : cxt p s m _ meth c prog_1_method_21_code 2 RC (some .int) := ⟨hx, hb, hr, hml, hown, hts, hlocks⟩
  have hl := lv_entry ([.ref (h 0), .int p0]) (n := 2) (Nat.le_of_ble_eq_true rfl)
  rw [lg_entry_eq]
  generalize (lg_sl ([.ref (h 0), .int p0]) ++ List.replicate (2 - (lg_sl ([.ref (h 0), .int p0])).length) Slot.unset).toArray = ls at hl ⊢
  have hl : lv_has ls 2 [(0, .ref (h 0)), (1, .int p0)] := hl
  unfold w_C_cellsOf at hw
  refine lv_aload_n hx hb d_C_cellsOf_0 rfl (lv_at hl 0 rfl) ?_
  refine va_get (D := (dC, dI)) (ci := 1) (v := .ref (h 13)) (C := RC) (T := TC) (N := 10) hx hb hts i_C hown hK hP 0 rfl rfl 9 (by decide) (hts _ m_114) (fun _ h9 => h9) rfl d_C_cellsOf_1 ?_
  refine lv_iload_n hx hb d_C_cellsOf_4 rfl (lv_at hl 1 rfl) ?_
  refine lv_iconst (v := 1) hx hb d_C_cellsOf_5 (by decide) ?_
  refine lv_iadd hx hb d_C_cellsOf_6 ?_
  obtain ⟨h1, hw⟩ := hw
  refine va_iald hx hb hK hP 13 10 rfl rfl h1 d_C_cellsOf_7 ?_
  refine lv_aload_n hx hb d_C_cellsOf_8 rfl (lv_at hl 0 rfl) ?_
  refine va_get (D := (dC, dI)) (ci := 1) (v := .ref (h 13)) (C := RC) (T := TC) (N := 10) hx hb hts i_C hown hK hP 0 rfl rfl 9 (by decide) (hts _ m_114) (fun _ h9 => h9) rfl d_C_cellsOf_9 ?_
  refine lv_iload_n hx hb d_C_cellsOf_12 rfl (lv_at hl 1 rfl) ?_
  obtain ⟨h2, hw⟩ := hw
  refine va_iald hx hb hK hP 13 10 rfl rfl h2 d_C_cellsOf_13 ?_
  refine lv_isub hx hb d_C_cellsOf_14 ?_
  exact W.iret (v := (((CS.fc st) (p0 + 1).toNatClampNeg) - ((CS.fc st) p0.toNatClampNeg))) hx hb hr (fun t ht hW => ⟨(((CS.fc st) (p0 + 1).toNatClampNeg) - ((CS.fc st) p0.toNatClampNeg)), rfl, hw, ht⟩) (fun _ h => by cases h) d_C_cellsOf_15
def w_C_stripOf_9 (st : CS) (post : Int32 → Prop) : Nat → Int32 → Int32 → Int32 → Prop
  | 0, _, _, _ => False
  | n + 1, v1, v2, v3 => (v2 ≤ v3 → (post v2)) ∧ (¬ v2 ≤ v3 → (vp_in (v3 + 1) 32 ∧ ((((CS.fc st) (v3 + 1).toNatClampNeg) ≤ v1 → (w_C_stripOf_9 st post n v1 v2 (v3 + 1))) ∧ (¬ ((CS.fc st) (v3 + 1).toNatClampNeg) ≤ v1 → (post v3)))))
set_option maxHeartbeats 4000000 in
set_option maxRecDepth 100000 in
theorem k_C_stripOf_9 {p : Program} {l : Launch} {e : Env} {s : State} {m : MethodId} {args : Array Value} {below : List Frame} {meth : Method} {c : Code} {dC : Nat → ClassId} {dI : Nat → Nat → Nat} {h : Nat → Nat} {k : Nat → ClassId} {st : CS} {post : Int32 → Prop} (C0 : cxt p s m args meth c prog_1_method_22_code 4 RC (some .int)) (hK : va_K (dC, dI) vwCl (YC k) s) (hN : va_Nw nestW s) (hP : va_P (dC, dI) vwCl (WC h k st) s.heap) : ∀ (n : Nat), ∀ (v1 : Int32) (v2 : Int32) (v3 : Int32), ∀ ls, lv_has ls 4 [(0, .ref (h 0)), (1, .int v1), (2, .int v2), (3, .int v3)] → w_C_stripOf_9 st post n v1 v2 v3 → W p l e ({ frames := 1, cells := 0, slots := 0, locals := 20 } : Room) s m args below meth c s.heap [] 0 0 (MQ below (vp_Si post) args s 0 0 (fun _ => False)) (F0 m 9 ls []) := by
  obtain ⟨hx, hb, hr, hml, hown, hts, hlocks⟩ := id C0
  intro n
  induction n with
  | zero =>
    intro v1 v2 v3 ls hl hw
    exact False.elim hw
  | succ n ih =>
    intro v1 v2 v3 ls hl hw
    rw [w_C_stripOf_9] at hw
    refine lv_iload_n hx hb d_C_stripOf_9 rfl (lv_at hl 3 rfl) ?_
    refine lv_iload_n hx hb d_C_stripOf_10 rfl (lv_at hl 2 rfl) ?_
    refine lv_icmp_ge (tgt := 34) hx hb d_C_stripOf_11 (by decide) (fun c4 => ?_) (fun c4 => ?_)
    · skip
      have hw := hw.1 c4
      refine lv_iload_n hx hb d_C_stripOf_34 rfl (lv_at hl 2 rfl) ?_
      exact W.iret (v := v2) hx hb hr (fun t ht hW => ⟨v2, rfl, hw, ht⟩) (fun _ h => by cases h) d_C_stripOf_35
    · skip
      have hw := hw.2 c4
      refine lv_iload_n hx hb d_C_stripOf_14 rfl (lv_at hl 1 rfl) ?_
      refine lv_aload_n hx hb d_C_stripOf_15 rfl (lv_at hl 0 rfl) ?_
      refine va_get (D := (dC, dI)) (ci := 1) (v := .ref (h 13)) (C := RC) (T := TC) (N := 10) hx hb hts i_C hown hK hP 0 rfl rfl 9 (by decide) (hts _ m_114) (fun _ h9 => h9) rfl d_C_stripOf_16 ?_
      refine lv_iload_n hx hb d_C_stripOf_19 rfl (lv_at hl 3 rfl) ?_
      refine lv_iconst (v := 1) hx hb d_C_stripOf_20 (by decide) ?_
      refine lv_iadd hx hb d_C_stripOf_21 ?_
      obtain ⟨h5, hw⟩ := hw
      refine va_iald hx hb hK hP 13 10 rfl rfl h5 d_C_stripOf_22 ?_
      refine lv_icmp_ge (tgt := 28) hx hb d_C_stripOf_23 (by decide) (fun c6 => ?_) (fun c6 => ?_)
      · skip
        have hw := hw.1 c6
        refine lv_iinc (v := (v3 + 1)) (lv' := [(3, .int (v3 + 1)), (0, .ref (h 0)), (1, .int v1), (2, .int v2)]) hx hb d_C_stripOf_28 hl (k := 3) rfl rfl (by decide) rfl (fun ls hl => ?_)
        refine lv_goto (tgt := 9) hx hb d_C_stripOf_31 (by decide) ?_
        exact ih v1 v2 (v3 + 1) ls (lv_sub hl [1, 2, 3, 0] rfl) hw
      · skip
        have hw := hw.2 c6
        refine lv_iload_n hx hb d_C_stripOf_26 rfl (lv_at hl 3 rfl) ?_
        exact W.iret (v := v3) hx hb hr (fun t ht hW => ⟨v3, rfl, hw, ht⟩) (fun _ h => by cases h) d_C_stripOf_27
def w_C_stripOf (st : CS) (post : Int32 → Prop) (p0 : Int32) : Prop := w_C_stripCount st (fun r1 => (∀ y2 : Int32, y2 = (r1 - 1) → (∃ z, w_C_stripOf_9 st post z p0 y2 0))) 
set_option maxHeartbeats 4000000 in
set_option maxRecDepth 100000 in
theorem t_C_stripOf (l : Launch) (dC : Nat → ClassId) (dI : Nat → Nat → Nat) (h : Nat → Nat) (k : Nat → ClassId) (st : CS) (p0 : Int32) {post : Int32 → Prop} (hw : w_C_stripOf st post p0) : Met l y_C_stripOf (Cond.code y_C_stripOf prog_1_method_22_code 4 (some .int) :: cw) ({ frames := 1, cells := 0, slots := 0, locals := 20 } : Room) (va_Pc [.ref (h 0), .int p0] (pRo (dC, dI) (WC h k st) (YC k))) (vp_Si post) 0 0 (fun _ => False) := by
  refine Met.ofW (cc := prog_1_method_22_code) (maxL := 4) (ret := (some .int)) (by decide) rfl ?_
  intro p e s m args below meth c s₁ B hml hv
  obtain ⟨rfl, hP, hK, hN⟩ := hv
  have hx := B.exec
  have hb := B.bytes
  have hr := B.returns
  have hts : ∀ w ∈ cw, w.before _ s = true := fun w h => atoms_spec (ws := (Cond.code y_C_stripOf prog_1_method_22_code 4 (some .int) :: cw)) B.pre w (List.mem_cons_of_mem _ h)
  have hown : s.vm.findClass RC = some m.cls := findClass_of_methodNamed B.named
  have hlocks := B.notSynchronized
  have C0 : cxt p s m _ meth c prog_1_method_22_code 4 RC (some .int) := ⟨hx, hb, hr, hml, hown, hts, hlocks⟩
  have hl := lv_entry ([.ref (h 0), .int p0]) (n := 4) (Nat.le_of_ble_eq_true rfl)
  rw [lg_entry_eq]
  generalize (lg_sl ([.ref (h 0), .int p0]) ++ List.replicate (4 - (lg_sl ([.ref (h 0), .int p0])).length) Slot.unset).toArray = ls at hl ⊢
  have hl : lv_has ls 4 [(0, .ref (h 0)), (1, .int p0)] := hl
  unfold w_C_stripOf at hw
  refine lv_aload_n hx hb d_C_stripOf_0 rfl (lv_at hl 0 rfl) ?_
  refine vp_callSi (va_Run.run (va_runV (As := []) (rest := []) ⟨hx, hb, hml, hown, hts⟩ (t_C_stripCount l dC dI h k st  hw) (cwV 0 hts (gV m_64 m_66 s_3 m_1 (cw_call m_67)) rfl rfl rfl (by decide +kernel) ⟨Nat.le_of_ble_eq_true rfl, Nat.le_of_ble_eq_true rfl⟩) ⟨pRo_bl, va_recv hK hP (ci := 1) (q0 := 0) rfl rfl, fun U hU hW => ⟨rfl, pRo_at hP hK hN hU hW⟩⟩ rfl rfl hl.1 rfl (lv_room (Nat.le_of_ble_eq_true rfl)) d_C_stripOf_1 ⟨Nat.le_of_ble_eq_true rfl, Nat.le_of_ble_eq_true rfl⟩)) (fun r1 hw => ?_)
  refine lv_iconst (v := 1) hx hb d_C_stripOf_4 (by decide) ?_
  refine lv_isub hx hb d_C_stripOf_5 ?_
  refine lv_topi (fun y2 ey2 => ?_)
  have hw := hw y2 ey2
  refine lv_istore_n (lv' := [(2, .int y2), (0, .ref (h 0)), (1, .int p0)]) hx hb d_C_stripOf_6 rfl hl (by decide) rfl (fun ls hl => ?_)
  refine lv_iconst (v := 0) hx hb d_C_stripOf_7 (by decide) ?_
  refine lv_istore_n (lv' := [(3, .int 0), (2, .int y2), (0, .ref (h 0)), (1, .int p0)]) hx hb d_C_stripOf_8 rfl hl (by decide) rfl (fun ls hl => ?_)
  obtain ⟨n3, hw⟩ := hw
  exact k_C_stripOf_9 C0 hK hN hP n3 p0 y2 0 ls (lv_sub hl [2, 3, 1, 0] rfl) hw
def w_C_heightAbove (st : CS) (post : Int64 → Prop) (p0 : Int32) (p1 : Int64) (p2 : Int64) : Prop := vp_in p0 6 ∧ (∀ y2 : Int64, y2 = (((((CS.a st) p0.toNatClampNeg).toInt64) * p1) + ((((CS.c st) p0.toNatClampNeg).toInt64) * p2)) → ((((CS.b st) p0.toNatClampNeg) ≤ 0 → (post y2)) ∧ (¬ ((CS.b st) p0.toNatClampNeg) ≤ 0 → (post (-y2)))))
set_option maxHeartbeats 4000000 in
set_option maxRecDepth 100000 in
theorem t_C_heightAbove (l : Launch) (dC : Nat → ClassId) (dI : Nat → Nat → Nat) (h : Nat → Nat) (k : Nat → ClassId) (st : CS) (p0 : Int32) (p1 : Int64) (p2 : Int64) {post : Int64 → Prop} (hw : w_C_heightAbove st post p0 p1 p2) : Met l y_C_heightAbove (Cond.code y_C_heightAbove prog_1_method_28_code 8 (some .long) :: cw) ({ frames := 0, cells := 0, slots := 0, locals := 0 } : Room) (va_Pc [.ref (h 0), .int p0, .long p1, .long p2] (pRo (dC, dI) (WC h k st) (YC k))) (vp_Sl post) 0 0 (fun _ => False) := by
  refine Met.ofW (cc := prog_1_method_28_code) (maxL := 8) (ret := (some .long)) (by decide) rfl ?_
  intro p e s m args below meth c s₁ B hml hv
  obtain ⟨rfl, hP, hK, hN⟩ := hv
  have hx := B.exec
  have hb := B.bytes
  have hr := B.returns
  have hts : ∀ w ∈ cw, w.before _ s = true := fun w h => atoms_spec (ws := (Cond.code y_C_heightAbove prog_1_method_28_code 8 (some .long) :: cw)) B.pre w (List.mem_cons_of_mem _ h)
  have hown : s.vm.findClass RC = some m.cls := findClass_of_methodNamed B.named
  have hlocks := B.notSynchronized
  have C0 : cxt p s m _ meth c prog_1_method_28_code 8 RC (some .long) := ⟨hx, hb, hr, hml, hown, hts, hlocks⟩
  have hl := lv_entry ([.ref (h 0), .int p0, .long p1, .long p2]) (n := 8) (Nat.le_of_ble_eq_true rfl)
  rw [lg_entry_eq]
  generalize (lg_sl ([.ref (h 0), .int p0, .long p1, .long p2]) ++ List.replicate (8 - (lg_sl ([.ref (h 0), .int p0, .long p1, .long p2])).length) Slot.unset).toArray = ls at hl ⊢
  have hl : lv_has ls 8 [(0, .ref (h 0)), (1, .int p0), (2, .long p1), (4, .long p2)] := hl
  unfold w_C_heightAbove at hw
  refine lv_aload_n hx hb d_C_heightAbove_0 rfl (lv_at hl 0 rfl) ?_
  refine va_get (D := (dC, dI)) (ci := 1) (v := .ref (h 1)) (C := RC) (T := TC) (N := 10) hx hb hts i_C hown hK hP 0 rfl rfl 0 (by decide) (hts _ m_105) (fun _ h9 => h9) rfl d_C_heightAbove_1 ?_
  refine lv_iload_n hx hb d_C_heightAbove_4 rfl (lv_at hl 1 rfl) ?_
  obtain ⟨h1, hw⟩ := hw
  refine va_iald hx hb hK hP 1 0 rfl rfl h1 d_C_heightAbove_5 ?_
  refine lv_i2l (v := ((CS.a st) p0.toNatClampNeg).toInt64) hx hb d_C_heightAbove_6 rfl ?_
  refine lv_lload_n hx hb d_C_heightAbove_7 rfl (lv_at hl 2 rfl) ?_
  refine lv_lmul hx hb d_C_heightAbove_8 ?_
  refine lv_aload_n hx hb d_C_heightAbove_9 rfl (lv_at hl 0 rfl) ?_
  refine va_get (D := (dC, dI)) (ci := 1) (v := .ref (h 3)) (C := RC) (T := TC) (N := 10) hx hb hts i_C hown hK hP 0 rfl rfl 2 (by decide) (hts _ m_107) (fun _ h9 => h9) rfl d_C_heightAbove_10 ?_
  refine lv_iload_n hx hb d_C_heightAbove_13 rfl (lv_at hl 1 rfl) ?_
  refine va_iald hx hb hK hP 3 2 rfl rfl h1 d_C_heightAbove_14 ?_
  refine lv_i2l (v := ((CS.c st) p0.toNatClampNeg).toInt64) hx hb d_C_heightAbove_15 rfl ?_
  refine lv_lload hx hb d_C_heightAbove_16 (lv_at hl 3 rfl) ?_
  refine lv_lmul hx hb d_C_heightAbove_18 ?_
  refine lv_ladd hx hb d_C_heightAbove_19 ?_
  refine lv_topl (fun y2 ey2 => ?_)
  have hw := hw y2 ey2
  refine lv_lstore (lv' := [(6, .long y2), (0, .ref (h 0)), (1, .int p0), (2, .long p1), (4, .long p2)]) hx hb d_C_heightAbove_20 hl (by decide) rfl (fun ls hl => ?_)
  refine lv_aload_n hx hb d_C_heightAbove_22 rfl (lv_at hl 1 rfl) ?_
  refine va_get (D := (dC, dI)) (ci := 1) (v := .ref (h 2)) (C := RC) (T := TC) (N := 10) hx hb hts i_C hown hK hP 0 rfl rfl 1 (by decide) (hts _ m_106) (fun _ h9 => h9) rfl d_C_heightAbove_23 ?_
  refine lv_iload_n hx hb d_C_heightAbove_26 rfl (lv_at hl 2 rfl) ?_
  refine va_iald hx hb hK hP 2 1 rfl rfl h1 d_C_heightAbove_27 ?_
  refine lv_if_le (tgt := 37) hx hb d_C_heightAbove_28 (by decide) (fun c3 => ?_) (fun c3 => ?_)
  · skip
    have hw := hw.1 c3
    refine lv_lload hx hb d_C_heightAbove_37 (lv_at hl 0 rfl) ?_
    exact W.lret (v := y2) hx hb hr (fun t ht hW => ⟨y2, rfl, hw, ht⟩) (fun _ h => by cases h) d_C_heightAbove_39
  · skip
    have hw := hw.2 c3
    refine lv_lload hx hb d_C_heightAbove_31 (lv_at hl 0 rfl) ?_
    refine lv_lneg hx hb d_C_heightAbove_33 ?_
    refine lv_goto (tgt := 39) hx hb d_C_heightAbove_34 (by decide) ?_
    exact W.lret (v := (-y2)) hx hb hr (fun t ht hW => ⟨(-y2), rfl, hw, ht⟩) (fun _ h => by cases h) d_C_heightAbove_39
def w_C_heightBelow (st : CS) (post : Int64 → Prop) (p0 : Int32) (p1 : Int64) : Prop := vp_in p0 6 ∧ (post (((if 0 ≤ ((CS.b st) p0.toNatClampNeg) then ((CS.b st) p0.toNatClampNeg) else 0 - ((CS.b st) p0.toNatClampNeg)).toInt64) * p1))
set_option maxHeartbeats 4000000 in
set_option maxRecDepth 100000 in
theorem t_C_heightBelow (l : Launch) (dC : Nat → ClassId) (dI : Nat → Nat → Nat) (h : Nat → Nat) (k : Nat → ClassId) (st : CS) (p0 : Int32) (p1 : Int64) {post : Int64 → Prop} (hw : w_C_heightBelow st post p0 p1) : Met l y_C_heightBelow (Cond.code y_C_heightBelow prog_1_method_29_code 4 (some .long) :: cw) ({ frames := 1, cells := 0, slots := 0, locals := 21 } : Room) (va_Pc [.ref (h 0), .int p0, .long p1] (pRo (dC, dI) (WC h k st) (YC k))) (vp_Sl post) 0 0 (fun _ => False) := by
  refine Met.ofW (cc := prog_1_method_29_code) (maxL := 4) (ret := (some .long)) (by decide) rfl ?_
  intro p e s m args below meth c s₁ B hml hv
  obtain ⟨rfl, hP, hK, hN⟩ := hv
  have hx := B.exec
  have hb := B.bytes
  have hr := B.returns
  have hts : ∀ w ∈ cw, w.before _ s = true := fun w h => atoms_spec (ws := (Cond.code y_C_heightBelow prog_1_method_29_code 4 (some .long) :: cw)) B.pre w (List.mem_cons_of_mem _ h)
  have hown : s.vm.findClass RC = some m.cls := findClass_of_methodNamed B.named
  have hlocks := B.notSynchronized
  have C0 : cxt p s m _ meth c prog_1_method_29_code 4 RC (some .long) := ⟨hx, hb, hr, hml, hown, hts, hlocks⟩
  have hl := lv_entry ([.ref (h 0), .int p0, .long p1]) (n := 4) (Nat.le_of_ble_eq_true rfl)
  rw [lg_entry_eq]
  generalize (lg_sl ([.ref (h 0), .int p0, .long p1]) ++ List.replicate (4 - (lg_sl ([.ref (h 0), .int p0, .long p1])).length) Slot.unset).toArray = ls at hl ⊢
  have hl : lv_has ls 4 [(0, .ref (h 0)), (1, .int p0), (2, .long p1)] := hl
  unfold w_C_heightBelow at hw
  refine lv_aload_n hx hb d_C_heightBelow_0 rfl (lv_at hl 0 rfl) ?_
  refine va_get (D := (dC, dI)) (ci := 1) (v := .ref (h 2)) (C := RC) (T := TC) (N := 10) hx hb hts i_C hown hK hP 0 rfl rfl 1 (by decide) (hts _ m_106) (fun _ h9 => h9) rfl d_C_heightBelow_1 ?_
  refine lv_iload_n hx hb d_C_heightBelow_4 rfl (lv_at hl 1 rfl) ?_
  obtain ⟨h1, hw⟩ := hw
  refine va_iald hx hb hK hP 2 1 rfl rfl h1 d_C_heightBelow_5 ?_
  refine va_mabs hx hb (hml.trans hl.1.symm) hown (hts _ m_101) (hts _ m_102) (hts _ m_4) (hts _ m_103) (Nat.le_of_ble_eq_true rfl) (Nat.le_of_ble_eq_true rfl) (Nat.le_of_ble_eq_true rfl) (Nat.le_of_ble_eq_true rfl) d_C_heightBelow_6 ?_
  refine lv_i2l (v := (if 0 ≤ ((CS.b st) p0.toNatClampNeg) then ((CS.b st) p0.toNatClampNeg) else 0 - ((CS.b st) p0.toNatClampNeg)).toInt64) hx hb d_C_heightBelow_9 rfl ?_
  refine lv_lload_n hx hb d_C_heightBelow_10 rfl (lv_at hl 2 rfl) ?_
  refine lv_lmul hx hb d_C_heightBelow_11 ?_
  exact W.lret (v := (((if 0 ≤ ((CS.b st) p0.toNatClampNeg) then ((CS.b st) p0.toNatClampNeg) else 0 - ((CS.b st) p0.toNatClampNeg)).toInt64) * p1)) hx hb hr (fun t ht hW => ⟨(((if 0 ≤ ((CS.b st) p0.toNatClampNeg) then ((CS.b st) p0.toNatClampNeg) else 0 - ((CS.b st) p0.toNatClampNeg)).toInt64) * p1), rfl, hw, ht⟩) (fun _ h => by cases h) d_C_heightBelow_12
def w_C_signIn (st : CS) (post : Int32 → Prop) (p0 : Int32) (p1 : Int32) (p2 : Int32) : Prop := vp_in p2 6 ∧ ((¬ ((CS.b st) p2.toNatClampNeg) = 0 → (vp_in p0 31 ∧ (w_C_signOf (fun r4 => ((((CS.b st) p2.toNatClampNeg) ≤ 0 → (post (-r4))) ∧ (¬ ((CS.b st) p2.toNatClampNeg) ≤ 0 → (post r4)))) ((p1 - ((CS.pl st) p0.toNatClampNeg p2.toNatClampNeg)).toInt64)))) ∧ (((CS.b st) p2.toNatClampNeg) = 0 → (vp_in p0 31 ∧ (w_C_signOf (fun r7 => (post r7)) (((((CS.a st) p2.toNatClampNeg).toInt64) * ((CS.sa st) p0.toNatClampNeg)) + ((((CS.c st) p2.toNatClampNeg).toInt64) * ((CS.sb st) p0.toNatClampNeg)))))))
set_option maxHeartbeats 4000000 in
set_option maxRecDepth 100000 in
theorem t_C_signIn (l : Launch) (dC : Nat → ClassId) (dI : Nat → Nat → Nat) (h : Nat → Nat) (k : Nat → ClassId) (st : CS) (p0 : Int32) (p1 : Int32) (p2 : Int32) {post : Int32 → Prop} (hw : w_C_signIn st post p0 p1 p2) : Met l y_C_signIn (Cond.code y_C_signIn prog_1_method_31_code 5 (some .int) :: cw) ({ frames := 1, cells := 0, slots := 0, locals := 21 } : Room) (va_Pc [.ref (h 0), .int p0, .int p1, .int p2] (pRo (dC, dI) (WC h k st) (YC k))) (vp_Si post) 0 0 (fun _ => False) := by
  refine Met.ofW (cc := prog_1_method_31_code) (maxL := 5) (ret := (some .int)) (by decide) rfl ?_
  intro p e s m args below meth c s₁ B hml hv
  obtain ⟨rfl, hP, hK, hN⟩ := hv
  have hx := B.exec
  have hb := B.bytes
  have hr := B.returns
  have hts : ∀ w ∈ cw, w.before _ s = true := fun w h => atoms_spec (ws := (Cond.code y_C_signIn prog_1_method_31_code 5 (some .int) :: cw)) B.pre w (List.mem_cons_of_mem _ h)
  have hown : s.vm.findClass RC = some m.cls := findClass_of_methodNamed B.named
  have hlocks := B.notSynchronized
  have C0 : cxt p s m _ meth c prog_1_method_31_code 5 RC (some .int) := ⟨hx, hb, hr, hml, hown, hts, hlocks⟩
  have hl := lv_entry ([.ref (h 0), .int p0, .int p1, .int p2]) (n := 5) (Nat.le_of_ble_eq_true rfl)
  rw [lg_entry_eq]
  generalize (lg_sl ([.ref (h 0), .int p0, .int p1, .int p2]) ++ List.replicate (5 - (lg_sl ([.ref (h 0), .int p0, .int p1, .int p2])).length) Slot.unset).toArray = ls at hl ⊢
  have hl : lv_has ls 5 [(0, .ref (h 0)), (1, .int p0), (2, .int p1), (3, .int p2)] := hl
  unfold w_C_signIn at hw
  refine lv_aload_n hx hb d_C_signIn_0 rfl (lv_at hl 0 rfl) ?_
  refine va_get (D := (dC, dI)) (ci := 1) (v := .ref (h 2)) (C := RC) (T := TC) (N := 10) hx hb hts i_C hown hK hP 0 rfl rfl 1 (by decide) (hts _ m_106) (fun _ h9 => h9) rfl d_C_signIn_1 ?_
  refine lv_iload_n hx hb d_C_signIn_4 rfl (lv_at hl 3 rfl) ?_
  obtain ⟨h1, hw⟩ := hw
  refine va_iald hx hb hK hP 2 1 rfl rfl h1 d_C_signIn_5 ?_
  refine lv_if_ne (tgt := 42) hx hb d_C_signIn_6 (by decide) (fun c2 => ?_) (fun c2 => ?_)
  · skip
    have hw := hw.1 c2
    refine lv_iload_n hx hb d_C_signIn_42 rfl (lv_at hl 2 rfl) ?_
    refine lv_aload_n hx hb d_C_signIn_43 rfl (lv_at hl 0 rfl) ?_
    refine va_get (D := (dC, dI)) (ci := 1) (v := .ref (h 12)) (C := RC) (T := TC) (N := 10) hx hb hts i_C hown hK hP 0 rfl rfl 8 (by decide) (hts _ m_113) (fun _ h9 => h9) rfl d_C_signIn_44 ?_
    refine lv_iload_n hx hb d_C_signIn_47 rfl (lv_at hl 1 rfl) ?_
    obtain ⟨h3, hw⟩ := hw
    refine va_aldC (r := fun i => h (i + 14)) hx hb hK hP 12 9 rfl rfl h3 d_C_signIn_48 ?_
    refine W.eq (g2 := F0 m 49 ls (.ref (h (p0.toNatClampNeg + 14)) :: .int p1 :: [])) rfl ?_
    refine lv_iload_n hx hb d_C_signIn_49 rfl (lv_at hl 3 rfl) ?_
    refine va_iald hx hb hK hP (p0.toNatClampNeg + 14) 11 (wc_row (clamp_lt h3)) rfl h1 d_C_signIn_50 ?_
    refine lv_isub hx hb d_C_signIn_51 ?_
    refine lv_i2l (v := (p1 - ((CS.pl st) p0.toNatClampNeg p2.toNatClampNeg)).toInt64) hx hb d_C_signIn_52 rfl ?_
    refine vp_callSi (va_Run.run (va_runS (As := [.long ((p1 - ((CS.pl st) p0.toNatClampNeg p2.toNatClampNeg)).toInt64)]) (rest := []) ⟨hx, hb, hml, hown, hts⟩ (t_C_signOf l ((p1 - ((CS.pl st) p0.toNatClampNeg p2.toNatClampNeg)).toInt64) hw) (va_cwS 1 hts (gS m_160 m_161 m_1 (cw_call m_162)) rfl rfl rfl (by decide +kernel) ⟨Nat.le_of_ble_eq_true rfl, Nat.le_of_ble_eq_true rfl⟩) ⟨pSt_bl, fun U hU hW => ⟨rfl, trivial⟩⟩ rfl rfl hl.1 rfl (lv_room (Nat.le_of_ble_eq_true rfl)) d_C_signIn_53 ⟨Nat.le_of_ble_eq_true rfl, Nat.le_of_ble_eq_true rfl⟩)) (fun r4 hw => ?_)
    refine lv_istore (lv' := [(4, .int r4), (0, .ref (h 0)), (1, .int p0), (2, .int p1), (3, .int p2)]) hx hb d_C_signIn_56 hl (by decide) rfl (fun ls hl => ?_)
    refine lv_aload_n hx hb d_C_signIn_58 rfl (lv_at hl 1 rfl) ?_
    refine va_get (D := (dC, dI)) (ci := 1) (v := .ref (h 2)) (C := RC) (T := TC) (N := 10) hx hb hts i_C hown hK hP 0 rfl rfl 1 (by decide) (hts _ m_106) (fun _ h9 => h9) rfl d_C_signIn_59 ?_
    refine lv_iload_n hx hb d_C_signIn_62 rfl (lv_at hl 4 rfl) ?_
    refine va_iald hx hb hK hP 2 1 rfl rfl h1 d_C_signIn_63 ?_
    refine lv_if_le (tgt := 72) hx hb d_C_signIn_64 (by decide) (fun c5 => ?_) (fun c5 => ?_)
    · skip
      have hw := hw.1 c5
      refine lv_iload hx hb d_C_signIn_72 (lv_at hl 0 rfl) ?_
      refine lv_ineg hx hb d_C_signIn_74 ?_
      exact W.iret (v := (-r4)) hx hb hr (fun t ht hW => ⟨(-r4), rfl, hw, ht⟩) (fun _ h => by cases h) d_C_signIn_75
    · skip
      have hw := hw.2 c5
      refine lv_iload hx hb d_C_signIn_67 (lv_at hl 0 rfl) ?_
      refine lv_goto (tgt := 75) hx hb d_C_signIn_69 (by decide) ?_
      exact W.iret (v := r4) hx hb hr (fun t ht hW => ⟨r4, rfl, hw, ht⟩) (fun _ h => by cases h) d_C_signIn_75
  · skip
    have hw := hw.2 c2
    refine lv_aload_n hx hb d_C_signIn_9 rfl (lv_at hl 0 rfl) ?_
    refine va_get (D := (dC, dI)) (ci := 1) (v := .ref (h 1)) (C := RC) (T := TC) (N := 10) hx hb hts i_C hown hK hP 0 rfl rfl 0 (by decide) (hts _ m_105) (fun _ h9 => h9) rfl d_C_signIn_10 ?_
    refine lv_iload_n hx hb d_C_signIn_13 rfl (lv_at hl 3 rfl) ?_
    refine va_iald hx hb hK hP 1 0 rfl rfl h1 d_C_signIn_14 ?_
    refine lv_i2l (v := ((CS.a st) p2.toNatClampNeg).toInt64) hx hb d_C_signIn_15 rfl ?_
    refine lv_aload_n hx hb d_C_signIn_16 rfl (lv_at hl 0 rfl) ?_
    refine va_get (D := (dC, dI)) (ci := 1) (v := .ref (h 10)) (C := RC) (T := TC) (N := 10) hx hb hts i_C hown hK hP 0 rfl rfl 6 (by decide) (hts _ m_111) (fun _ h9 => h9) rfl d_C_signIn_17 ?_
    refine lv_iload_n hx hb d_C_signIn_20 rfl (lv_at hl 1 rfl) ?_
    obtain ⟨h6, hw⟩ := hw
    refine va_lald hx hb hK hP 10 7 rfl rfl h6 d_C_signIn_21 ?_
    refine lv_lmul hx hb d_C_signIn_22 ?_
    refine lv_aload_n hx hb d_C_signIn_23 rfl (lv_at hl 0 rfl) ?_
    refine va_get (D := (dC, dI)) (ci := 1) (v := .ref (h 3)) (C := RC) (T := TC) (N := 10) hx hb hts i_C hown hK hP 0 rfl rfl 2 (by decide) (hts _ m_107) (fun _ h9 => h9) rfl d_C_signIn_24 ?_
    refine lv_iload_n hx hb d_C_signIn_27 rfl (lv_at hl 3 rfl) ?_
    refine va_iald hx hb hK hP 3 2 rfl rfl h1 d_C_signIn_28 ?_
    refine lv_i2l (v := ((CS.c st) p2.toNatClampNeg).toInt64) hx hb d_C_signIn_29 rfl ?_
    refine lv_aload_n hx hb d_C_signIn_30 rfl (lv_at hl 0 rfl) ?_
    refine va_get (D := (dC, dI)) (ci := 1) (v := .ref (h 11)) (C := RC) (T := TC) (N := 10) hx hb hts i_C hown hK hP 0 rfl rfl 7 (by decide) (hts _ m_112) (fun _ h9 => h9) rfl d_C_signIn_31 ?_
    refine lv_iload_n hx hb d_C_signIn_34 rfl (lv_at hl 1 rfl) ?_
    refine va_lald hx hb hK hP 11 8 rfl rfl h6 d_C_signIn_35 ?_
    refine lv_lmul hx hb d_C_signIn_36 ?_
    refine lv_ladd hx hb d_C_signIn_37 ?_
    refine vp_callSi (va_Run.run (va_runS (As := [.long (((((CS.a st) p2.toNatClampNeg).toInt64) * ((CS.sa st) p0.toNatClampNeg)) + ((((CS.c st) p2.toNatClampNeg).toInt64) * ((CS.sb st) p0.toNatClampNeg)))]) (rest := []) ⟨hx, hb, hml, hown, hts⟩ (t_C_signOf l (((((CS.a st) p2.toNatClampNeg).toInt64) * ((CS.sa st) p0.toNatClampNeg)) + ((((CS.c st) p2.toNatClampNeg).toInt64) * ((CS.sb st) p0.toNatClampNeg))) hw) (va_cwS 1 hts (gS m_160 m_161 m_1 (cw_call m_162)) rfl rfl rfl (by decide +kernel) ⟨Nat.le_of_ble_eq_true rfl, Nat.le_of_ble_eq_true rfl⟩) ⟨pSt_bl, fun U hU hW => ⟨rfl, trivial⟩⟩ rfl rfl hl.1 rfl (lv_room (Nat.le_of_ble_eq_true rfl)) d_C_signIn_38 ⟨Nat.le_of_ble_eq_true rfl, Nat.le_of_ble_eq_true rfl⟩)) (fun r7 hw => ?_)
    exact W.iret (v := r7) hx hb hr (fun t ht hW => ⟨r7, rfl, hw, ht⟩) (fun _ h => by cases h) d_C_signIn_41
def w_C_hasSigns_3 (st : CS) (post : Int32 → Prop) : Nat → Int32 → Int32 → Int32 → Int32 → Prop
  | 0, _, _, _, _ => False
  | n + 1, v1, v2, v3, v4 => ((CS.lc st) ≤ v4 → (post 1)) ∧ (¬ (CS.lc st) ≤ v4 → (∀ y3 : Int32, y3 = ((v3 >>> ((2 * v4) &&& 31)) &&& 3) → ((y3 = 0 → (w_C_hasSigns_3 st post n v1 v2 v3 (v4 + 1))) ∧ (¬ y3 = 0 → (w_C_signIn st (fun r5 => (w_C_wantFor (fun r6 => ((y3 = r6 → (w_C_hasSigns_3 st post n v1 v2 v3 (v4 + 1))) ∧ (¬ y3 = r6 → (post 0)))) r5)) v1 v2 v4)))))
set_option maxHeartbeats 4000000 in
set_option maxRecDepth 100000 in
theorem k_C_hasSigns_3 {p : Program} {l : Launch} {e : Env} {s : State} {m : MethodId} {args : Array Value} {below : List Frame} {meth : Method} {c : Code} {dC : Nat → ClassId} {dI : Nat → Nat → Nat} {h : Nat → Nat} {k : Nat → ClassId} {st : CS} {post : Int32 → Prop} (C0 : cxt p s m args meth c prog_1_method_32_code 6 RC (some .boolean)) (hK : va_K (dC, dI) vwCl (YC k) s) (hN : va_Nw nestW s) (hP : va_P (dC, dI) vwCl (WC h k st) s.heap) : ∀ (n : Nat), ∀ (v1 : Int32) (v2 : Int32) (v3 : Int32) (v4 : Int32), ∀ ls, lv_has ls 6 [(0, .ref (h 0)), (1, .int v1), (2, .int v2), (3, .int v3), (4, .int v4)] → w_C_hasSigns_3 st post n v1 v2 v3 v4 → W p l e ({ frames := 2, cells := 0, slots := 0, locals := 45 } : Room) s m args below meth c s.heap [] 0 0 (MQ below (vp_Si post) args s 0 0 (fun _ => False)) (F0 m 3 ls []) := by
  obtain ⟨hx, hb, hr, hml, hown, hts, hlocks⟩ := id C0
  intro n
  induction n with
  | zero =>
    intro v1 v2 v3 v4 ls hl hw
    exact False.elim hw
  | succ n ih =>
    intro v1 v2 v3 v4 ls hl hw
    rw [w_C_hasSigns_3] at hw
    refine lv_iload hx hb d_C_hasSigns_3 (lv_at hl 4 rfl) ?_
    refine lv_aload_n hx hb d_C_hasSigns_5 rfl (lv_at hl 0 rfl) ?_
    refine va_get (D := (dC, dI)) (ci := 1) (v := .int (CS.lc st)) (C := RC) (T := TC) (N := 10) hx hb hts i_C hown hK hP 0 rfl rfl 3 (by decide) (hts _ m_108) (fun _ h9 => h9) rfl d_C_hasSigns_6 ?_
    refine lv_icmp_ge (tgt := 51) hx hb d_C_hasSigns_9 (by decide) (fun c2 => ?_) (fun c2 => ?_)
    · skip
      have hw := hw.1 c2
      refine lv_iconst (v := 1) hx hb d_C_hasSigns_51 (by decide) ?_
      exact W.zret (v := 1) hx hb hr rfl (fun t ht hW => ⟨1, rfl, hw, ht⟩) (fun _ h => by cases h) d_C_hasSigns_52
    · skip
      have hw := hw.2 c2
      refine lv_iload_n hx hb d_C_hasSigns_12 rfl (lv_at hl 3 rfl) ?_
      refine lv_iconst (v := 2) hx hb d_C_hasSigns_13 (by decide) ?_
      refine lv_iload hx hb d_C_hasSigns_14 (lv_at hl 4 rfl) ?_
      refine lv_imul hx hb d_C_hasSigns_16 ?_
      refine lv_ishr hx hb d_C_hasSigns_17 ?_
      refine lv_iconst (v := 3) hx hb d_C_hasSigns_18 (by decide) ?_
      refine lv_iand hx hb d_C_hasSigns_19 ?_
      refine lv_topi (fun y3 ey3 => ?_)
      have hw := hw y3 ey3
      refine lv_istore (lv' := [(5, .int y3), (0, .ref (h 0)), (1, .int v1), (2, .int v2), (3, .int v3), (4, .int v4)]) hx hb d_C_hasSigns_20 hl (by decide) rfl (fun ls hl => ?_)
      refine lv_iload hx hb d_C_hasSigns_22 (lv_at hl 0 rfl) ?_
      refine lv_if_eq (tgt := 45) hx hb d_C_hasSigns_24 (by decide) (fun c4 => ?_) (fun c4 => ?_)
      · skip
        have hw := hw.1 c4
        refine lv_iinc (v := (v4 + 1)) (lv' := [(4, .int (v4 + 1)), (5, .int y3), (0, .ref (h 0)), (1, .int v1), (2, .int v2), (3, .int v3)]) hx hb d_C_hasSigns_45 hl (k := 5) rfl rfl (by decide) rfl (fun ls hl => ?_)
        refine lv_goto (tgt := 3) hx hb d_C_hasSigns_48 (by decide) ?_
        exact ih v1 v2 v3 (v4 + 1) ls (lv_sub hl [2, 3, 4, 5, 0] rfl) hw
      · skip
        have hw := hw.2 c4
        refine lv_iload hx hb d_C_hasSigns_27 (lv_at hl 0 rfl) ?_
        refine lv_aload_n hx hb d_C_hasSigns_29 rfl (lv_at hl 1 rfl) ?_
        refine lv_iload_n hx hb d_C_hasSigns_30 rfl (lv_at hl 2 rfl) ?_
        refine lv_iload_n hx hb d_C_hasSigns_31 rfl (lv_at hl 3 rfl) ?_
        refine lv_iload hx hb d_C_hasSigns_32 (lv_at hl 5 rfl) ?_
        refine vp_callSi (va_Run.run (va_runV (As := [.int v1, .int v2, .int v4]) (rest := [.int y3]) ⟨hx, hb, hml, hown, hts⟩ (t_C_signIn l dC dI h k st v1 v2 v4 hw) (cwV 3 hts (gV m_156 m_158 s_10 m_1 (cw_call m_159)) rfl rfl rfl (by decide +kernel) ⟨Nat.le_of_ble_eq_true rfl, Nat.le_of_ble_eq_true rfl⟩) ⟨pRo_bl, va_recv hK hP (ci := 1) (q0 := 0) rfl rfl, fun U hU hW => ⟨rfl, pRo_at hP hK hN hU hW⟩⟩ rfl rfl hl.1 rfl (lv_room (Nat.le_of_ble_eq_true rfl)) d_C_hasSigns_34 ⟨Nat.le_of_ble_eq_true rfl, Nat.le_of_ble_eq_true rfl⟩)) (fun r5 hw => ?_)
        refine vp_callSi (va_Run.run (va_runS (As := [.int r5]) (rest := [.int y3]) ⟨hx, hb, hml, hown, hts⟩ (t_C_wantFor l r5 hw) (va_cwS 1 hts (gS m_163 m_164 m_1 (cw_call m_165)) rfl rfl rfl (by decide +kernel) ⟨Nat.le_of_ble_eq_true rfl, Nat.le_of_ble_eq_true rfl⟩) ⟨pSt_bl, fun U hU hW => ⟨rfl, trivial⟩⟩ rfl rfl hl.1 rfl (lv_room (Nat.le_of_ble_eq_true rfl)) d_C_hasSigns_37 ⟨Nat.le_of_ble_eq_true rfl, Nat.le_of_ble_eq_true rfl⟩)) (fun r6 hw => ?_)
        refine lv_icmp_eq (tgt := 45) hx hb d_C_hasSigns_40 (by decide) (fun c7 => ?_) (fun c7 => ?_)
        · skip
          have hw := hw.1 c7
          refine lv_iinc (v := (v4 + 1)) (lv' := [(4, .int (v4 + 1)), (5, .int y3), (0, .ref (h 0)), (1, .int v1), (2, .int v2), (3, .int v3)]) hx hb d_C_hasSigns_45 hl (k := 5) rfl rfl (by decide) rfl (fun ls hl => ?_)
          refine lv_goto (tgt := 3) hx hb d_C_hasSigns_48 (by decide) ?_
          exact ih v1 v2 v3 (v4 + 1) ls (lv_sub hl [2, 3, 4, 5, 0] rfl) hw
        · skip
          have hw := hw.2 c7
          refine lv_iconst (v := 0) hx hb d_C_hasSigns_43 (by decide) ?_
          exact W.zret (v := 0) hx hb hr rfl (fun t ht hW => ⟨0, rfl, hw, ht⟩) (fun _ h => by cases h) d_C_hasSigns_44
def w_C_hasSigns (st : CS) (post : Int32 → Prop) (p0 : Int32) (p1 : Int32) (p2 : Int32) : Prop := ∃ z, w_C_hasSigns_3 st post z p0 p1 p2 0
set_option maxHeartbeats 4000000 in
set_option maxRecDepth 100000 in
theorem t_C_hasSigns (l : Launch) (dC : Nat → ClassId) (dI : Nat → Nat → Nat) (h : Nat → Nat) (k : Nat → ClassId) (st : CS) (p0 : Int32) (p1 : Int32) (p2 : Int32) {post : Int32 → Prop} (hw : w_C_hasSigns st post p0 p1 p2) : Met l y_C_hasSigns (Cond.code y_C_hasSigns prog_1_method_32_code 6 (some .boolean) :: cw) ({ frames := 2, cells := 0, slots := 0, locals := 45 } : Room) (va_Pc [.ref (h 0), .int p0, .int p1, .int p2] (pRo (dC, dI) (WC h k st) (YC k))) (vp_Si post) 0 0 (fun _ => False) := by
  refine Met.ofW (cc := prog_1_method_32_code) (maxL := 6) (ret := (some .boolean)) (by decide) rfl ?_
  intro p e s m args below meth c s₁ B hml hv
  obtain ⟨rfl, hP, hK, hN⟩ := hv
  have hx := B.exec
  have hb := B.bytes
  have hr := B.returns
  have hts : ∀ w ∈ cw, w.before _ s = true := fun w h => atoms_spec (ws := (Cond.code y_C_hasSigns prog_1_method_32_code 6 (some .boolean) :: cw)) B.pre w (List.mem_cons_of_mem _ h)
  have hown : s.vm.findClass RC = some m.cls := findClass_of_methodNamed B.named
  have hlocks := B.notSynchronized
  have C0 : cxt p s m _ meth c prog_1_method_32_code 6 RC (some .boolean) := ⟨hx, hb, hr, hml, hown, hts, hlocks⟩
  have hl := lv_entry ([.ref (h 0), .int p0, .int p1, .int p2]) (n := 6) (Nat.le_of_ble_eq_true rfl)
  rw [lg_entry_eq]
  generalize (lg_sl ([.ref (h 0), .int p0, .int p1, .int p2]) ++ List.replicate (6 - (lg_sl ([.ref (h 0), .int p0, .int p1, .int p2])).length) Slot.unset).toArray = ls at hl ⊢
  have hl : lv_has ls 6 [(0, .ref (h 0)), (1, .int p0), (2, .int p1), (3, .int p2)] := hl
  unfold w_C_hasSigns at hw
  refine lv_iconst (v := 0) hx hb d_C_hasSigns_0 (by decide) ?_
  refine lv_istore (lv' := [(4, .int 0), (0, .ref (h 0)), (1, .int p0), (2, .int p1), (3, .int p2)]) hx hb d_C_hasSigns_1 hl (by decide) rfl (fun ls hl => ?_)
  obtain ⟨n1, hw⟩ := hw
  exact k_C_hasSigns_3 C0 hK hN hP n1 p0 p1 p2 0 ls (lv_sub hl [1, 2, 3, 4, 0] rfl) hw
def w_C_reaches_3 (st : CS) (post : Int32 → Prop) : Nat → Int32 → Int32 → Int32 → Int32 → Int32 → Prop
  | 0, _, _, _, _, _ => False
  | n + 1, v1, v2, v3, v4, v5 => ((CS.lc st) ≤ v5 → (post 1)) ∧ (¬ (CS.lc st) ≤ v5 → (vp_in v1 31 ∧ (vp_in v5 6 ∧ (w_C_signOf (fun r5 => (vp_in v3 31 ∧ (w_C_signOf (fun r7 => ((r7 = 0 → (w_C_reaches_3 st post n v1 v2 v3 v4 (v5 + 1))) ∧ (¬ r7 = 0 → ((r7 = r5 → (w_C_reaches_3 st post n v1 v2 v3 v4 (v5 + 1))) ∧ (¬ r7 = r5 → (post 0)))))) ((v4 - ((CS.pl st) v3.toNatClampNeg v5.toNatClampNeg)).toInt64)))) ((v2 - ((CS.pl st) v1.toNatClampNeg v5.toNatClampNeg)).toInt64)))))
set_option maxHeartbeats 4000000 in
set_option maxRecDepth 100000 in
theorem k_C_reaches_3 {p : Program} {l : Launch} {e : Env} {s : State} {m : MethodId} {args : Array Value} {below : List Frame} {meth : Method} {c : Code} {dC : Nat → ClassId} {dI : Nat → Nat → Nat} {h : Nat → Nat} {k : Nat → ClassId} {st : CS} {post : Int32 → Prop} (C0 : cxt p s m args meth c prog_1_method_34_code 8 RC (some .boolean)) (hK : va_K (dC, dI) vwCl (YC k) s) (hN : va_Nw nestW s) (hP : va_P (dC, dI) vwCl (WC h k st) s.heap) : ∀ (n : Nat), ∀ (v1 : Int32) (v2 : Int32) (v3 : Int32) (v4 : Int32) (v5 : Int32), ∀ ls, lv_has ls 8 [(0, .ref (h 0)), (1, .int v1), (2, .int v2), (3, .int v3), (4, .int v4), (5, .int v5)] → w_C_reaches_3 st post n v1 v2 v3 v4 v5 → W p l e ({ frames := 1, cells := 0, slots := 0, locals := 21 } : Room) s m args below meth c s.heap [] 0 0 (MQ below (vp_Si post) args s 0 0 (fun _ => False)) (F0 m 3 ls []) := by
  obtain ⟨hx, hb, hr, hml, hown, hts, hlocks⟩ := id C0
  intro n
  induction n with
  | zero =>
    intro v1 v2 v3 v4 v5 ls hl hw
    exact False.elim hw
  | succ n ih =>
    intro v1 v2 v3 v4 v5 ls hl hw
    rw [w_C_reaches_3] at hw
    refine lv_iload hx hb d_C_reaches_3 (lv_at hl 5 rfl) ?_
    refine lv_aload_n hx hb d_C_reaches_5 rfl (lv_at hl 0 rfl) ?_
    refine va_get (D := (dC, dI)) (ci := 1) (v := .int (CS.lc st)) (C := RC) (T := TC) (N := 10) hx hb hts i_C hown hK hP 0 rfl rfl 3 (by decide) (hts _ m_108) (fun _ h9 => h9) rfl d_C_reaches_6 ?_
    refine lv_icmp_ge (tgt := 67) hx hb d_C_reaches_9 (by decide) (fun c2 => ?_) (fun c2 => ?_)
    · skip
      have hw := hw.1 c2
      refine lv_iconst (v := 1) hx hb d_C_reaches_67 (by decide) ?_
      exact W.zret (v := 1) hx hb hr rfl (fun t ht hW => ⟨1, rfl, hw, ht⟩) (fun _ h => by cases h) d_C_reaches_68
    · skip
      have hw := hw.2 c2
      refine lv_iload_n hx hb d_C_reaches_12 rfl (lv_at hl 2 rfl) ?_
      refine lv_aload_n hx hb d_C_reaches_13 rfl (lv_at hl 0 rfl) ?_
      refine va_get (D := (dC, dI)) (ci := 1) (v := .ref (h 12)) (C := RC) (T := TC) (N := 10) hx hb hts i_C hown hK hP 0 rfl rfl 8 (by decide) (hts _ m_113) (fun _ h9 => h9) rfl d_C_reaches_14 ?_
      refine lv_iload_n hx hb d_C_reaches_17 rfl (lv_at hl 1 rfl) ?_
      obtain ⟨h3, hw⟩ := hw
      refine va_aldC (r := fun i => h (i + 14)) hx hb hK hP 12 9 rfl rfl h3 d_C_reaches_18 ?_
      refine W.eq (g2 := F0 m 19 ls (.ref (h (v1.toNatClampNeg + 14)) :: .int v2 :: [])) rfl ?_
      refine lv_iload hx hb d_C_reaches_19 (lv_at hl 5 rfl) ?_
      obtain ⟨h4, hw⟩ := hw
      refine va_iald hx hb hK hP (v1.toNatClampNeg + 14) 11 (wc_row (clamp_lt h3)) rfl h4 d_C_reaches_21 ?_
      refine lv_isub hx hb d_C_reaches_22 ?_
      refine lv_i2l (v := (v2 - ((CS.pl st) v1.toNatClampNeg v5.toNatClampNeg)).toInt64) hx hb d_C_reaches_23 rfl ?_
      refine vp_callSi (va_Run.run (va_runS (As := [.long ((v2 - ((CS.pl st) v1.toNatClampNeg v5.toNatClampNeg)).toInt64)]) (rest := []) ⟨hx, hb, hml, hown, hts⟩ (t_C_signOf l ((v2 - ((CS.pl st) v1.toNatClampNeg v5.toNatClampNeg)).toInt64) hw) (va_cwS 1 hts (gS m_160 m_161 m_1 (cw_call m_162)) rfl rfl rfl (by decide +kernel) ⟨Nat.le_of_ble_eq_true rfl, Nat.le_of_ble_eq_true rfl⟩) ⟨pSt_bl, fun U hU hW => ⟨rfl, trivial⟩⟩ rfl rfl hl.1 rfl (lv_room (Nat.le_of_ble_eq_true rfl)) d_C_reaches_24 ⟨Nat.le_of_ble_eq_true rfl, Nat.le_of_ble_eq_true rfl⟩)) (fun r5 hw => ?_)
      refine lv_istore (lv' := [(6, .int r5), (0, .ref (h 0)), (1, .int v1), (2, .int v2), (3, .int v3), (4, .int v4), (5, .int v5)]) hx hb d_C_reaches_27 hl (by decide) rfl (fun ls hl => ?_)
      refine lv_iload hx hb d_C_reaches_29 (lv_at hl 5 rfl) ?_
      refine lv_aload_n hx hb d_C_reaches_31 rfl (lv_at hl 1 rfl) ?_
      refine va_get (D := (dC, dI)) (ci := 1) (v := .ref (h 12)) (C := RC) (T := TC) (N := 10) hx hb hts i_C hown hK hP 0 rfl rfl 8 (by decide) (hts _ m_113) (fun _ h9 => h9) rfl d_C_reaches_32 ?_
      refine lv_iload_n hx hb d_C_reaches_35 rfl (lv_at hl 4 rfl) ?_
      obtain ⟨h6, hw⟩ := hw
      refine va_aldC (r := fun i => h (i + 14)) hx hb hK hP 12 9 rfl rfl h6 d_C_reaches_36 ?_
      refine W.eq (g2 := F0 m 37 ls (.ref (h (v3.toNatClampNeg + 14)) :: .int v4 :: [])) rfl ?_
      refine lv_iload hx hb d_C_reaches_37 (lv_at hl 6 rfl) ?_
      refine va_iald hx hb hK hP (v3.toNatClampNeg + 14) 11 (wc_row (clamp_lt h6)) rfl h4 d_C_reaches_39 ?_
      refine lv_isub hx hb d_C_reaches_40 ?_
      refine lv_i2l (v := (v4 - ((CS.pl st) v3.toNatClampNeg v5.toNatClampNeg)).toInt64) hx hb d_C_reaches_41 rfl ?_
      refine vp_callSi (va_Run.run (va_runS (As := [.long ((v4 - ((CS.pl st) v3.toNatClampNeg v5.toNatClampNeg)).toInt64)]) (rest := []) ⟨hx, hb, hml, hown, hts⟩ (t_C_signOf l ((v4 - ((CS.pl st) v3.toNatClampNeg v5.toNatClampNeg)).toInt64) hw) (va_cwS 1 hts (gS m_160 m_161 m_1 (cw_call m_162)) rfl rfl rfl (by decide +kernel) ⟨Nat.le_of_ble_eq_true rfl, Nat.le_of_ble_eq_true rfl⟩) ⟨pSt_bl, fun U hU hW => ⟨rfl, trivial⟩⟩ rfl rfl hl.1 rfl (lv_room (Nat.le_of_ble_eq_true rfl)) d_C_reaches_42 ⟨Nat.le_of_ble_eq_true rfl, Nat.le_of_ble_eq_true rfl⟩)) (fun r7 hw => ?_)
      refine lv_istore (lv' := [(7, .int r7), (6, .int r5), (0, .ref (h 0)), (1, .int v1), (2, .int v2), (3, .int v3), (4, .int v4), (5, .int v5)]) hx hb d_C_reaches_45 hl (by decide) rfl (fun ls hl => ?_)
      refine lv_iload hx hb d_C_reaches_47 (lv_at hl 0 rfl) ?_
      refine lv_if_eq (tgt := 61) hx hb d_C_reaches_49 (by decide) (fun c8 => ?_) (fun c8 => ?_)
      · skip
        have hw := hw.1 c8
        refine lv_iinc (v := (v5 + 1)) (lv' := [(5, .int (v5 + 1)), (7, .int r7), (6, .int r5), (0, .ref (h 0)), (1, .int v1), (2, .int v2), (3, .int v3), (4, .int v4)]) hx hb d_C_reaches_61 hl (k := 7) rfl rfl (by decide) rfl (fun ls hl => ?_)
        refine lv_goto (tgt := 3) hx hb d_C_reaches_64 (by decide) ?_
        exact ih v1 v2 v3 v4 (v5 + 1) ls (lv_sub hl [3, 4, 5, 6, 7, 0] rfl) hw
      · skip
        have hw := hw.2 c8
        refine lv_iload hx hb d_C_reaches_52 (lv_at hl 0 rfl) ?_
        refine lv_iload hx hb d_C_reaches_54 (lv_at hl 1 rfl) ?_
        refine lv_icmp_eq (tgt := 61) hx hb d_C_reaches_56 (by decide) (fun c9 => ?_) (fun c9 => ?_)
        · skip
          have hw := hw.1 c9
          refine lv_iinc (v := (v5 + 1)) (lv' := [(5, .int (v5 + 1)), (7, .int r7), (6, .int r5), (0, .ref (h 0)), (1, .int v1), (2, .int v2), (3, .int v3), (4, .int v4)]) hx hb d_C_reaches_61 hl (k := 7) rfl rfl (by decide) rfl (fun ls hl => ?_)
          refine lv_goto (tgt := 3) hx hb d_C_reaches_64 (by decide) ?_
          exact ih v1 v2 v3 v4 (v5 + 1) ls (lv_sub hl [3, 4, 5, 6, 7, 0] rfl) hw
        · skip
          have hw := hw.2 c9
          refine lv_iconst (v := 0) hx hb d_C_reaches_59 (by decide) ?_
          exact W.zret (v := 0) hx hb hr rfl (fun t ht hW => ⟨0, rfl, hw, ht⟩) (fun _ h => by cases h) d_C_reaches_60
def w_C_reaches (st : CS) (post : Int32 → Prop) (p0 : Int32) (p1 : Int32) (p2 : Int32) (p3 : Int32) : Prop := ∃ z, w_C_reaches_3 st post z p0 p1 p2 p3 0
set_option maxHeartbeats 4000000 in
set_option maxRecDepth 100000 in
theorem t_C_reaches (l : Launch) (dC : Nat → ClassId) (dI : Nat → Nat → Nat) (h : Nat → Nat) (k : Nat → ClassId) (st : CS) (p0 : Int32) (p1 : Int32) (p2 : Int32) (p3 : Int32) {post : Int32 → Prop} (hw : w_C_reaches st post p0 p1 p2 p3) : Met l y_C_reaches (Cond.code y_C_reaches prog_1_method_34_code 8 (some .boolean) :: cw) ({ frames := 1, cells := 0, slots := 0, locals := 21 } : Room) (va_Pc [.ref (h 0), .int p0, .int p1, .int p2, .int p3] (pRo (dC, dI) (WC h k st) (YC k))) (vp_Si post) 0 0 (fun _ => False) := by
  refine Met.ofW (cc := prog_1_method_34_code) (maxL := 8) (ret := (some .boolean)) (by decide) rfl ?_
  intro p e s m args below meth c s₁ B hml hv
  obtain ⟨rfl, hP, hK, hN⟩ := hv
  have hx := B.exec
  have hb := B.bytes
  have hr := B.returns
  have hts : ∀ w ∈ cw, w.before _ s = true := fun w h => atoms_spec (ws := (Cond.code y_C_reaches prog_1_method_34_code 8 (some .boolean) :: cw)) B.pre w (List.mem_cons_of_mem _ h)
  have hown : s.vm.findClass RC = some m.cls := findClass_of_methodNamed B.named
  have hlocks := B.notSynchronized
  have C0 : cxt p s m _ meth c prog_1_method_34_code 8 RC (some .boolean) := ⟨hx, hb, hr, hml, hown, hts, hlocks⟩
  have hl := lv_entry ([.ref (h 0), .int p0, .int p1, .int p2, .int p3]) (n := 8) (Nat.le_of_ble_eq_true rfl)
  rw [lg_entry_eq]
  generalize (lg_sl ([.ref (h 0), .int p0, .int p1, .int p2, .int p3]) ++ List.replicate (8 - (lg_sl ([.ref (h 0), .int p0, .int p1, .int p2, .int p3])).length) Slot.unset).toArray = ls at hl ⊢
  have hl : lv_has ls 8 [(0, .ref (h 0)), (1, .int p0), (2, .int p1), (3, .int p2), (4, .int p3)] := hl
  unfold w_C_reaches at hw
  refine lv_iconst (v := 0) hx hb d_C_reaches_0 (by decide) ?_
  refine lv_istore (lv' := [(5, .int 0), (0, .ref (h 0)), (1, .int p0), (2, .int p1), (3, .int p2), (4, .int p3)]) hx hb d_C_reaches_1 hl (by decide) rfl (fun ls hl => ?_)
  obtain ⟨n1, hw⟩ := hw
  exact k_C_reaches_3 C0 hK hN hP n1 p0 p1 p2 p3 0 ls (lv_sub hl [1, 2, 3, 4, 5, 0] rfl) hw
def w_C_cuts (st : CS) (post : Int32 → Prop) : Prop := post (KS.cnt (CS.cu st))
set_option maxHeartbeats 4000000 in
set_option maxRecDepth 100000 in
theorem t_C_cuts (l : Launch) (dC : Nat → ClassId) (dI : Nat → Nat → Nat) (h : Nat → Nat) (k : Nat → ClassId) (st : CS) {post : Int32 → Prop} (hw : w_C_cuts st post) : Met l y_C_cuts (Cond.code y_C_cuts prog_1_method_4_code 1 (some .int) :: cw) ({ frames := 0, cells := 0, slots := 0, locals := 0 } : Room) (va_Pc [.ref (h 0)] (pRo (dC, dI) (WC h k st) (YC k))) (vp_Si post) 0 0 (fun _ => False) := by
  refine Met.ofW (cc := prog_1_method_4_code) (maxL := 1) (ret := (some .int)) (by decide) rfl ?_
  intro p e s m args below meth c s₁ B hml hv
  obtain ⟨rfl, hP, hK, hN⟩ := hv
  have hx := B.exec
  have hb := B.bytes
  have hr := B.returns
  have hts : ∀ w ∈ cw, w.before _ s = true := fun w h => atoms_spec (ws := (Cond.code y_C_cuts prog_1_method_4_code 1 (some .int) :: cw)) B.pre w (List.mem_cons_of_mem _ h)
  have hown : s.vm.findClass RC = some m.cls := findClass_of_methodNamed B.named
  have hlocks := B.notSynchronized
  have C0 : cxt p s m _ meth c prog_1_method_4_code 1 RC (some .int) := ⟨hx, hb, hr, hml, hown, hts, hlocks⟩
  have hl := lv_entry ([.ref (h 0)]) (n := 1) (Nat.le_of_ble_eq_true rfl)
  rw [lg_entry_eq]
  generalize (lg_sl ([.ref (h 0)]) ++ List.replicate (1 - (lg_sl ([.ref (h 0)])).length) Slot.unset).toArray = ls at hl ⊢
  have hl : lv_has ls 1 [(0, .ref (h 0))] := hl
  unfold w_C_cuts at hw
  refine lv_aload_n hx hb d_C_cuts_0 rfl (lv_at hl 0 rfl) ?_
  refine va_get (D := (dC, dI)) (ci := 1) (v := .ref (h 4)) (C := RC) (T := TC) (N := 10) hx hb hts i_C hown hK hP 0 rfl rfl 4 (by decide) (hts _ m_109) (fun _ h9 => h9) rfl d_C_cuts_1 ?_
  refine va_getN (D := (dC, dI)) (ci := 0) (v := .int (KS.cnt (CS.cu st))) (C := RK) (T := TK) (N := 3) hx hb hts i_K hown hK hP 4 rfl rfl 2 (by decide) (va_Nw.use rfl hN) (fun _ h9 => h9) rfl d_C_cuts_4 ?_
  exact W.iret (v := (KS.cnt (CS.cu st))) hx hb hr (fun t ht hW => ⟨(KS.cnt (CS.cu st)), rfl, hw, ht⟩) (fun _ h => by cases h) d_C_cuts_7
def w_C_total (st : CS) (post : Int32 → Prop) : Prop := w_C_stripCount st (fun r1 => (vp_in r1 32 ∧ (post ((CS.fc st) r1.toNatClampNeg)))) 
set_option maxHeartbeats 4000000 in
set_option maxRecDepth 100000 in
theorem t_C_total (l : Launch) (dC : Nat → ClassId) (dI : Nat → Nat → Nat) (h : Nat → Nat) (k : Nat → ClassId) (st : CS) {post : Int32 → Prop} (hw : w_C_total st post) : Met l y_C_total (Cond.code y_C_total prog_1_method_7_code 1 (some .int) :: cw) ({ frames := 1, cells := 0, slots := 0, locals := 20 } : Room) (va_Pc [.ref (h 0)] (pRo (dC, dI) (WC h k st) (YC k))) (vp_Si post) 0 0 (fun _ => False) := by
  refine Met.ofW (cc := prog_1_method_7_code) (maxL := 1) (ret := (some .int)) (by decide) rfl ?_
  intro p e s m args below meth c s₁ B hml hv
  obtain ⟨rfl, hP, hK, hN⟩ := hv
  have hx := B.exec
  have hb := B.bytes
  have hr := B.returns
  have hts : ∀ w ∈ cw, w.before _ s = true := fun w h => atoms_spec (ws := (Cond.code y_C_total prog_1_method_7_code 1 (some .int) :: cw)) B.pre w (List.mem_cons_of_mem _ h)
  have hown : s.vm.findClass RC = some m.cls := findClass_of_methodNamed B.named
  have hlocks := B.notSynchronized
  have C0 : cxt p s m _ meth c prog_1_method_7_code 1 RC (some .int) := ⟨hx, hb, hr, hml, hown, hts, hlocks⟩
  have hl := lv_entry ([.ref (h 0)]) (n := 1) (Nat.le_of_ble_eq_true rfl)
  rw [lg_entry_eq]
  generalize (lg_sl ([.ref (h 0)]) ++ List.replicate (1 - (lg_sl ([.ref (h 0)])).length) Slot.unset).toArray = ls at hl ⊢
  have hl : lv_has ls 1 [(0, .ref (h 0))] := hl
  unfold w_C_total at hw
  refine lv_aload_n hx hb d_C_total_0 rfl (lv_at hl 0 rfl) ?_
  refine va_get (D := (dC, dI)) (ci := 1) (v := .ref (h 13)) (C := RC) (T := TC) (N := 10) hx hb hts i_C hown hK hP 0 rfl rfl 9 (by decide) (hts _ m_114) (fun _ h9 => h9) rfl d_C_total_1 ?_
  refine lv_aload_n hx hb d_C_total_4 rfl (lv_at hl 0 rfl) ?_
  refine vp_callSi (va_Run.run (va_runV (As := []) (rest := [.ref (h 13)]) ⟨hx, hb, hml, hown, hts⟩ (t_C_stripCount l dC dI h k st  hw) (cwV 0 hts (gV m_64 m_66 s_3 m_1 (cw_call m_67)) rfl rfl rfl (by decide +kernel) ⟨Nat.le_of_ble_eq_true rfl, Nat.le_of_ble_eq_true rfl⟩) ⟨pRo_bl, va_recv hK hP (ci := 1) (q0 := 0) rfl rfl, fun U hU hW => ⟨rfl, pRo_at hP hK hN hU hW⟩⟩ rfl rfl hl.1 rfl (lv_room (Nat.le_of_ble_eq_true rfl)) d_C_total_5 ⟨Nat.le_of_ble_eq_true rfl, Nat.le_of_ble_eq_true rfl⟩)) (fun r1 hw => ?_)
  obtain ⟨h2, hw⟩ := hw
  refine va_iald hx hb hK hP 13 10 rfl rfl h2 d_C_total_8 ?_
  exact W.iret (v := ((CS.fc st) r1.toNatClampNeg)) hx hb hr (fun t ht hW => ⟨((CS.fc st) r1.toNatClampNeg), rfl, hw, ht⟩) (fun _ h => by cases h) d_C_total_9
def w_C_find_22 (st : CS) (post : Int32 → Prop) (K7 : Int32 → Int32 → Int32 → Prop) : Nat → Int32 → Int32 → Int32 → Int32 → Int32 → Prop
  | 0, _, _, _, _, _ => False
  | n + 1, v1, v2, v3, v4, v5 => (v4 ≤ v5 → (K7 v1 v2 (v3 + 1))) ∧ (¬ v4 ≤ v5 → (w_C_hasSigns st (fun r7 => ((r7 = 0 → (w_C_find_22 st post K7 n v1 v2 v3 v4 (v5 + 1))) ∧ (¬ r7 = 0 → (vp_in v3 32 ∧ (post (((CS.fc st) v3.toNatClampNeg) + v5)))))) v3 v5 v1))
set_option maxHeartbeats 4000000 in
set_option maxRecDepth 100000 in
theorem k_C_find_22 {p : Program} {l : Launch} {e : Env} {s : State} {m : MethodId} {args : Array Value} {below : List Frame} {meth : Method} {c : Code} {dC : Nat → ClassId} {dI : Nat → Nat → Nat} {h : Nat → Nat} {k : Nat → ClassId} {st : CS} {post : Int32 → Prop} {K7 : Int32 → Int32 → Int32 → Prop} (C0 : cxt p s m args meth c prog_1_method_12_code 6 RC (some .int)) (hK : va_K (dC, dI) vwCl (YC k) s) (hN : va_Nw nestW s) (hP : va_P (dC, dI) vwCl (WC h k st) s.heap) (hK7 : ∀ (v1 : Int32) (v2 : Int32) (v3 : Int32), ∀ ls, lv_has ls 6 [(0, .ref (h 0)), (1, .int v1), (2, .int v2), (3, .int v3)] → K7 v1 v2 v3 → W p l e ({ frames := 3, cells := 0, slots := 0, locals := 70 } : Room) s m args below meth c s.heap [] 0 0 (MQ below (vp_Si post) args s 0 0 (fun _ => False)) (F0 m 7 ls [])) : ∀ (n : Nat), ∀ (v1 : Int32) (v2 : Int32) (v3 : Int32) (v4 : Int32) (v5 : Int32), ∀ ls, lv_has ls 6 [(0, .ref (h 0)), (1, .int v1), (2, .int v2), (3, .int v3), (4, .int v4), (5, .int v5)] → w_C_find_22 st post K7 n v1 v2 v3 v4 v5 → W p l e ({ frames := 3, cells := 0, slots := 0, locals := 70 } : Room) s m args below meth c s.heap [] 0 0 (MQ below (vp_Si post) args s 0 0 (fun _ => False)) (F0 m 22 ls []) := by
  obtain ⟨hx, hb, hr, hml, hown, hts, hlocks⟩ := id C0
  intro n
  induction n with
  | zero =>
    intro v1 v2 v3 v4 v5 ls hl hw
    exact False.elim hw
  | succ n ih =>
    intro v1 v2 v3 v4 v5 ls hl hw
    rw [w_C_find_22] at hw
    refine lv_iload hx hb d_C_find_22 (lv_at hl 5 rfl) ?_
    refine lv_iload hx hb d_C_find_24 (lv_at hl 4 rfl) ?_
    refine lv_icmp_ge (tgt := 56) hx hb d_C_find_26 (by decide) (fun c6 => ?_) (fun c6 => ?_)
    · skip
      have hw := hw.1 c6
      refine lv_iinc (v := (v3 + 1)) (lv' := [(3, .int (v3 + 1)), (0, .ref (h 0)), (1, .int v1), (2, .int v2), (4, .int v4), (5, .int v5)]) hx hb d_C_find_56 hl (k := 3) rfl rfl (by decide) rfl (fun ls hl => ?_)
      refine lv_goto (tgt := 7) hx hb d_C_find_59 (by decide) ?_
      exact hK7 v1 v2 (v3 + 1) ls (lv_sub hl [1, 2, 3, 0] rfl) hw
    · skip
      have hw := hw.2 c6
      refine lv_aload_n hx hb d_C_find_29 rfl (lv_at hl 0 rfl) ?_
      refine lv_iload_n hx hb d_C_find_30 rfl (lv_at hl 3 rfl) ?_
      refine lv_iload hx hb d_C_find_31 (lv_at hl 5 rfl) ?_
      refine lv_iload_n hx hb d_C_find_33 rfl (lv_at hl 1 rfl) ?_
      refine vp_callSi (va_Run.run (va_runV (As := [.int v3, .int v5, .int v1]) (rest := []) ⟨hx, hb, hml, hown, hts⟩ (t_C_hasSigns l dC dI h k st v3 v5 v1 hw) (cwV 3 hts (gV m_152 m_154 s_9 m_1 (cw_call m_155)) rfl rfl rfl (by decide +kernel) ⟨Nat.le_of_ble_eq_true rfl, Nat.le_of_ble_eq_true rfl⟩) ⟨pRo_bl, va_recv hK hP (ci := 1) (q0 := 0) rfl rfl, fun U hU hW => ⟨rfl, pRo_at hP hK hN hU hW⟩⟩ rfl rfl hl.1 rfl (lv_room (Nat.le_of_ble_eq_true rfl)) d_C_find_34 ⟨Nat.le_of_ble_eq_true rfl, Nat.le_of_ble_eq_true rfl⟩)) (fun r7 hw => ?_)
      refine lv_if_eq (tgt := 50) hx hb d_C_find_37 (by decide) (fun c8 => ?_) (fun c8 => ?_)
      · skip
        have hw := hw.1 c8
        refine lv_iinc (v := (v5 + 1)) (lv' := [(5, .int (v5 + 1)), (0, .ref (h 0)), (1, .int v1), (2, .int v2), (3, .int v3), (4, .int v4)]) hx hb d_C_find_50 hl (k := 5) rfl rfl (by decide) rfl (fun ls hl => ?_)
        refine lv_goto (tgt := 22) hx hb d_C_find_53 (by decide) ?_
        exact ih v1 v2 v3 v4 (v5 + 1) ls (lv_sub hl [1, 2, 3, 4, 5, 0] rfl) hw
      · skip
        have hw := hw.2 c8
        refine lv_aload_n hx hb d_C_find_40 rfl (lv_at hl 0 rfl) ?_
        refine va_get (D := (dC, dI)) (ci := 1) (v := .ref (h 13)) (C := RC) (T := TC) (N := 10) hx hb hts i_C hown hK hP 0 rfl rfl 9 (by decide) (hts _ m_114) (fun _ h9 => h9) rfl d_C_find_41 ?_
        refine lv_iload_n hx hb d_C_find_44 rfl (lv_at hl 3 rfl) ?_
        obtain ⟨h9, hw⟩ := hw
        refine va_iald hx hb hK hP 13 10 rfl rfl h9 d_C_find_45 ?_
        refine lv_iload hx hb d_C_find_46 (lv_at hl 5 rfl) ?_
        refine lv_iadd hx hb d_C_find_48 ?_
        exact W.iret (v := (((CS.fc st) v3.toNatClampNeg) + v5)) hx hb hr (fun t ht hW => ⟨(((CS.fc st) v3.toNatClampNeg) + v5), rfl, hw, ht⟩) (fun _ h => by cases h) d_C_find_49
def w_C_find_7 (st : CS) (post : Int32 → Prop) : Nat → Int32 → Int32 → Int32 → Prop
  | 0, _, _, _ => False
  | n + 1, v1, v2, v3 => (v2 ≤ v3 → (post (-1))) ∧ (¬ v2 ≤ v3 → (w_C_cellsOf st (fun r4 => (∃ z, w_C_find_22 st post (fun a0 a1 a2 => w_C_find_7 st post n a0 a1 a2) z v1 v2 v3 r4 0)) v3))
set_option maxHeartbeats 4000000 in
set_option maxRecDepth 100000 in
theorem k_C_find_7 {p : Program} {l : Launch} {e : Env} {s : State} {m : MethodId} {args : Array Value} {below : List Frame} {meth : Method} {c : Code} {dC : Nat → ClassId} {dI : Nat → Nat → Nat} {h : Nat → Nat} {k : Nat → ClassId} {st : CS} {post : Int32 → Prop} (C0 : cxt p s m args meth c prog_1_method_12_code 6 RC (some .int)) (hK : va_K (dC, dI) vwCl (YC k) s) (hN : va_Nw nestW s) (hP : va_P (dC, dI) vwCl (WC h k st) s.heap) : ∀ (n : Nat), ∀ (v1 : Int32) (v2 : Int32) (v3 : Int32), ∀ ls, lv_has ls 6 [(0, .ref (h 0)), (1, .int v1), (2, .int v2), (3, .int v3)] → w_C_find_7 st post n v1 v2 v3 → W p l e ({ frames := 3, cells := 0, slots := 0, locals := 70 } : Room) s m args below meth c s.heap [] 0 0 (MQ below (vp_Si post) args s 0 0 (fun _ => False)) (F0 m 7 ls []) := by
  obtain ⟨hx, hb, hr, hml, hown, hts, hlocks⟩ := id C0
  intro n
  induction n with
  | zero =>
    intro v1 v2 v3 ls hl hw
    exact False.elim hw
  | succ n ih =>
    intro v1 v2 v3 ls hl hw
    rw [w_C_find_7] at hw
    refine lv_iload_n hx hb d_C_find_7 rfl (lv_at hl 3 rfl) ?_
    refine lv_iload_n hx hb d_C_find_8 rfl (lv_at hl 2 rfl) ?_
    refine lv_icmp_ge (tgt := 62) hx hb d_C_find_9 (by decide) (fun c3 => ?_) (fun c3 => ?_)
    · skip
      have hw := hw.1 c3
      refine lv_iconst (v := (-1)) hx hb d_C_find_62 (by decide) ?_
      exact W.iret (v := (-1)) hx hb hr (fun t ht hW => ⟨(-1), rfl, hw, ht⟩) (fun _ h => by cases h) d_C_find_63
    · skip
      have hw := hw.2 c3
      refine lv_aload_n hx hb d_C_find_12 rfl (lv_at hl 0 rfl) ?_
      refine lv_iload_n hx hb d_C_find_13 rfl (lv_at hl 3 rfl) ?_
      refine vp_callSi (va_Run.run (va_runV (As := [.int v3]) (rest := []) ⟨hx, hb, hml, hown, hts⟩ (t_C_cellsOf l dC dI h k st v3 hw) (cwV 1 hts (gV m_148 m_150 s_8 m_1 (cw_call m_151)) rfl rfl rfl (by decide +kernel) ⟨Nat.le_of_ble_eq_true rfl, Nat.le_of_ble_eq_true rfl⟩) ⟨pRo_bl, va_recv hK hP (ci := 1) (q0 := 0) rfl rfl, fun U hU hW => ⟨rfl, pRo_at hP hK hN hU hW⟩⟩ rfl rfl hl.1 rfl (lv_room (Nat.le_of_ble_eq_true rfl)) d_C_find_14 ⟨Nat.le_of_ble_eq_true rfl, Nat.le_of_ble_eq_true rfl⟩)) (fun r4 hw => ?_)
      refine lv_istore (lv' := [(4, .int r4), (0, .ref (h 0)), (1, .int v1), (2, .int v2), (3, .int v3)]) hx hb d_C_find_17 hl (by decide) rfl (fun ls hl => ?_)
      refine lv_iconst (v := 0) hx hb d_C_find_19 (by decide) ?_
      refine lv_istore (lv' := [(5, .int 0), (4, .int r4), (0, .ref (h 0)), (1, .int v1), (2, .int v2), (3, .int v3)]) hx hb d_C_find_20 hl (by decide) rfl (fun ls hl => ?_)
      obtain ⟨n5, hw⟩ := hw
      exact k_C_find_22 C0 hK hN hP ih n5 v1 v2 v3 r4 0 ls (lv_sub hl [2, 3, 4, 5, 1, 0] rfl) hw
def w_C_find (st : CS) (post : Int32 → Prop) (p0 : Int32) : Prop := w_C_stripCount st (fun r1 => (∃ z, w_C_find_7 st post z p0 r1 0)) 
set_option maxHeartbeats 4000000 in
set_option maxRecDepth 100000 in
theorem t_C_find (l : Launch) (dC : Nat → ClassId) (dI : Nat → Nat → Nat) (h : Nat → Nat) (k : Nat → ClassId) (st : CS) (p0 : Int32) {post : Int32 → Prop} (hw : w_C_find st post p0) : Met l y_C_find (Cond.code y_C_find prog_1_method_12_code 6 (some .int) :: cw) ({ frames := 3, cells := 0, slots := 0, locals := 70 } : Room) (va_Pc [.ref (h 0), .int p0] (pRo (dC, dI) (WC h k st) (YC k))) (vp_Si post) 0 0 (fun _ => False) := by
  refine Met.ofW (cc := prog_1_method_12_code) (maxL := 6) (ret := (some .int)) (by decide) rfl ?_
  intro p e s m args below meth c s₁ B hml hv
  obtain ⟨rfl, hP, hK, hN⟩ := hv
  have hx := B.exec
  have hb := B.bytes
  have hr := B.returns
  have hts : ∀ w ∈ cw, w.before _ s = true := fun w h => atoms_spec (ws := (Cond.code y_C_find prog_1_method_12_code 6 (some .int) :: cw)) B.pre w (List.mem_cons_of_mem _ h)
  have hown : s.vm.findClass RC = some m.cls := findClass_of_methodNamed B.named
  have hlocks := B.notSynchronized
  have C0 : cxt p s m _ meth c prog_1_method_12_code 6 RC (some .int) := ⟨hx, hb, hr, hml, hown, hts, hlocks⟩
  have hl := lv_entry ([.ref (h 0), .int p0]) (n := 6) (Nat.le_of_ble_eq_true rfl)
  rw [lg_entry_eq]
  generalize (lg_sl ([.ref (h 0), .int p0]) ++ List.replicate (6 - (lg_sl ([.ref (h 0), .int p0])).length) Slot.unset).toArray = ls at hl ⊢
  have hl : lv_has ls 6 [(0, .ref (h 0)), (1, .int p0)] := hl
  unfold w_C_find at hw
  refine lv_aload_n hx hb d_C_find_0 rfl (lv_at hl 0 rfl) ?_
  refine vp_callSi (va_Run.run (va_runV (As := []) (rest := []) ⟨hx, hb, hml, hown, hts⟩ (t_C_stripCount l dC dI h k st  hw) (cwV 0 hts (gV m_64 m_66 s_3 m_1 (cw_call m_67)) rfl rfl rfl (by decide +kernel) ⟨Nat.le_of_ble_eq_true rfl, Nat.le_of_ble_eq_true rfl⟩) ⟨pRo_bl, va_recv hK hP (ci := 1) (q0 := 0) rfl rfl, fun U hU hW => ⟨rfl, pRo_at hP hK hN hU hW⟩⟩ rfl rfl hl.1 rfl (lv_room (Nat.le_of_ble_eq_true rfl)) d_C_find_1 ⟨Nat.le_of_ble_eq_true rfl, Nat.le_of_ble_eq_true rfl⟩)) (fun r1 hw => ?_)
  refine lv_istore_n (lv' := [(2, .int r1), (0, .ref (h 0)), (1, .int p0)]) hx hb d_C_find_4 rfl hl (by decide) rfl (fun ls hl => ?_)
  refine lv_iconst (v := 0) hx hb d_C_find_5 (by decide) ?_
  refine lv_istore_n (lv' := [(3, .int 0), (2, .int r1), (0, .ref (h 0)), (1, .int p0)]) hx hb d_C_find_6 rfl hl (by decide) rfl (fun ls hl => ?_)
  obtain ⟨n2, hw⟩ := hw
  exact k_C_find_7 C0 hK hN hP n2 p0 r1 0 ls (lv_sub hl [2, 3, 1, 0] rfl) hw
def w_C_lines (st : CS) (post : Int32 → Prop) : Prop := post (CS.lc st)
set_option maxHeartbeats 4000000 in
set_option maxRecDepth 100000 in
theorem t_C_lines (l : Launch) (dC : Nat → ClassId) (dI : Nat → Nat → Nat) (h : Nat → Nat) (k : Nat → ClassId) (st : CS) {post : Int32 → Prop} (hw : w_C_lines st post) : Met l y_C_lines (Cond.code y_C_lines prog_1_method_14_code 1 (some .int) :: cw) ({ frames := 0, cells := 0, slots := 0, locals := 0 } : Room) (va_Pc [.ref (h 0)] (pRo (dC, dI) (WC h k st) (YC k))) (vp_Si post) 0 0 (fun _ => False) := by
  refine Met.ofW (cc := prog_1_method_14_code) (maxL := 1) (ret := (some .int)) (by decide) rfl ?_
  intro p e s m args below meth c s₁ B hml hv
  obtain ⟨rfl, hP, hK, hN⟩ := hv
  have hx := B.exec
  have hb := B.bytes
  have hr := B.returns
  have hts : ∀ w ∈ cw, w.before _ s = true := fun w h => atoms_spec (ws := (Cond.code y_C_lines prog_1_method_14_code 1 (some .int) :: cw)) B.pre w (List.mem_cons_of_mem _ h)
  have hown : s.vm.findClass RC = some m.cls := findClass_of_methodNamed B.named
  have hlocks := B.notSynchronized
  have C0 : cxt p s m _ meth c prog_1_method_14_code 1 RC (some .int) := ⟨hx, hb, hr, hml, hown, hts, hlocks⟩
  have hl := lv_entry ([.ref (h 0)]) (n := 1) (Nat.le_of_ble_eq_true rfl)
  rw [lg_entry_eq]
  generalize (lg_sl ([.ref (h 0)]) ++ List.replicate (1 - (lg_sl ([.ref (h 0)])).length) Slot.unset).toArray = ls at hl ⊢
  have hl : lv_has ls 1 [(0, .ref (h 0))] := hl
  unfold w_C_lines at hw
  refine lv_aload_n hx hb d_C_lines_0 rfl (lv_at hl 0 rfl) ?_
  refine va_get (D := (dC, dI)) (ci := 1) (v := .int (CS.lc st)) (C := RC) (T := TC) (N := 10) hx hb hts i_C hown hK hP 0 rfl rfl 3 (by decide) (hts _ m_108) (fun _ h9 => h9) rfl d_C_lines_1 ?_
  exact W.iret (v := (CS.lc st)) hx hb hr (fun t ht hW => ⟨(CS.lc st), rfl, hw, ht⟩) (fun _ h => by cases h) d_C_lines_4
