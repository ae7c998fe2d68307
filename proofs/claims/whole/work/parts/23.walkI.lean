def w_K_insert_38 (post : KS → Prop) : Nat → KS → Int64 → Int64 → Int32 → Int32 → Prop
  | 0, _, _, _, _, _ => False
  | n + 1, st, v1, v3, v6, v7 => (v7 ≤ v6 → (vp_in v6 15 ∧ (post (KS.set_cnt (KS.set_dn (KS.set_up st (vp_updL (KS.up st) v6.toNatClampNeg v1)) (vp_updL (KS.dn st) v6.toNatClampNeg v3)) ((KS.cnt st) + 1))))) ∧ (¬ v7 ≤ v6 → (vp_in (v7 - 1) 15 ∧ (vp_in v7 15 ∧ (w_K_insert_38 post n (KS.set_dn (KS.set_up st (vp_updL (KS.up st) v7.toNatClampNeg ((KS.up st) (v7 - 1).toNatClampNeg))) (vp_updL (KS.dn st) v7.toNatClampNeg ((KS.dn st) (v7 - 1).toNatClampNeg))) v1 v3 v6 (v7 + (-1))))))
set_option maxHeartbeats 4000000 in
set_option maxRecDepth 100000 in
theorem k_K_insert_38 {p : Program} {l : Launch} {e : Env} {s : State} {m : MethodId} {args : Array Value} {below : List Frame} {meth : Method} {c : Code} {dC : Nat → ClassId} {dI : Nat → Nat → Nat} {h : Nat → Nat} {k : Nat → ClassId} {A : Nat → Prop} {post : KS → Prop} (C0 : cxt p s m args meth c prog_2_method_2_code 8 RK none) (hK : va_K (dC, dI) vwCl (YK k) s) (hN : va_Nw nestW s) (hA : ∀ q, s.heap.size ≤ q → A q) : ∀ (n : Nat), ∀ (st : KS) (v1 : Int64) (v3 : Int64) (v6 : Int32) (v7 : Int32) (H : Heap) (locs : List Loc), va_P (dC, dI) vwCl (WK h k st) H → va_D A (WK h k st) → va_S A s.heap H locs → ∀ ls, lv_has ls 8 [(0, .ref (h 0)), (1, .long v1), (3, .long v3), (6, .int v6), (7, .int v7)] → w_K_insert_38 post n st v1 v3 v6 v7 → W p l e ({ frames := 2, cells := 0, slots := 0, locals := 49 } : Room) s m args below meth c H locs 0 0 (MQ below (va_Qv post (fun u t => va_P (dC, dI) vwCl (WK h k u) t.heap ∧ va_D A (WK h k u)) A) args s 0 0 A) (F0 m 38 ls []) := by
  obtain ⟨hx, hb, hr, hml, hown, hts, hlocks⟩ := id C0
  intro n
  induction n with
  | zero =>
    intro st v1 v3 v6 v7 H locs hP hD hS ls hl hw
    exact False.elim hw
  | succ n ih =>
    intro st v1 v3 v6 v7 H locs hP hD hS ls hl hw
    rw [w_K_insert_38] at hw
    refine lv_iload hx hb d_K_insert_38 (lv_at hl 4 rfl) ?_
    refine lv_iload hx hb d_K_insert_40 (lv_at hl 3 rfl) ?_
    refine lv_icmp_le (tgt := 83) hx hb d_K_insert_42 (by decide) (fun c7 => ?_) (fun c7 => ?_)
    · skip
      have hw := hw.1 c7
      refine lv_aload_n hx hb d_K_insert_83 rfl (lv_at hl 0 rfl) ?_
      refine va_get (D := (dC, dI)) (ci := 0) (v := .ref (h 1)) (C := RK) (T := TK) (N := 3) hx hb hts i_K hown hK hP 0 rfl rfl 0 (by decide) (hts _ m_26) (fun _ h9 => h9) rfl d_K_insert_84 ?_
      refine lv_iload hx hb d_K_insert_87 (lv_at hl 3 rfl) ?_
      refine lv_lload_n hx hb d_K_insert_89 rfl (lv_at hl 1 rfl) ?_
      obtain ⟨h8, hw⟩ := hw
      refine va_last hx hb hK hP hD hS 1 0 rfl rfl h8 d_K_insert_90 (fun H locs hP hD hS => ?_)
      have hP : va_P (dC, dI) vwCl (WK h k (KS.set_up st (vp_updL (KS.up st) v6.toNatClampNeg v1))) H := hP
      have hD : va_D A (WK h k (KS.set_up st (vp_updL (KS.up st) v6.toNatClampNeg v1))) := hD
      refine lv_aload_n hx hb d_K_insert_91 rfl (lv_at hl 0 rfl) ?_
      refine va_get (D := (dC, dI)) (ci := 0) (v := .ref (h 2)) (C := RK) (T := TK) (N := 3) hx hb hts i_K hown hK hP 0 rfl rfl 1 (by decide) (hts _ m_27) (fun _ h9 => h9) rfl d_K_insert_92 ?_
      refine lv_iload hx hb d_K_insert_95 (lv_at hl 3 rfl) ?_
      refine lv_lload_n hx hb d_K_insert_97 rfl (lv_at hl 2 rfl) ?_
      refine va_last hx hb hK hP hD hS 2 1 rfl rfl h8 d_K_insert_98 (fun H locs hP hD hS => ?_)
      have hP : va_P (dC, dI) vwCl (WK h k (KS.set_dn (KS.set_up st (vp_updL (KS.up st) v6.toNatClampNeg v1)) (vp_updL (KS.dn st) v6.toNatClampNeg v3))) H := hP
      have hD : va_D A (WK h k (KS.set_dn (KS.set_up st (vp_updL (KS.up st) v6.toNatClampNeg v1)) (vp_updL (KS.dn st) v6.toNatClampNeg v3))) := hD
      refine lv_aload_n hx hb d_K_insert_99 rfl (lv_at hl 0 rfl) ?_
      refine lv_dup hx hb d_K_insert_100 rfl ?_
      refine va_get (D := (dC, dI)) (ci := 0) (v := .int (KS.cnt st)) (C := RK) (T := TK) (N := 3) hx hb hts i_K hown hK hP 0 rfl rfl 2 (by decide) (hts _ m_28) (fun _ h9 => h9) rfl d_K_insert_101 ?_
      refine lv_iconst (v := 1) hx hb d_K_insert_104 (by decide) ?_
      refine lv_iadd hx hb d_K_insert_105 ?_
      refine va_put (D := (dC, dI)) (ci := 0) (v := .int ((KS.cnt st) + 1)) (ty := .int) (C := RK) (T := TK) (N := 3) hx hb hts i_K tyK tyK_ok nmK hown hK hP hD hS 0 rfl rfl 2 (by decide) (hts _ m_28) (fun _ h9 => h9) rfl (by decide +kernel) rfl rfl (Nat.le_of_ble_eq_true rfl) d_K_insert_106 (fun H locs hP hD hS => ?_)
      have hP : va_P (dC, dI) vwCl (WK h k (KS.set_cnt (KS.set_dn (KS.set_up st (vp_updL (KS.up st) v6.toNatClampNeg v1)) (vp_updL (KS.dn st) v6.toNatClampNeg v3)) ((KS.cnt st) + 1))) H := hP
      have hD : va_D A (WK h k (KS.set_cnt (KS.set_dn (KS.set_up st (vp_updL (KS.up st) v6.toNatClampNeg v1)) (vp_updL (KS.dn st) v6.toNatClampNeg v3)) ((KS.cnt st) + 1))) := hD
      exact W.vret hx hb hr (fun t ht hW => ⟨⟨(KS.set_cnt (KS.set_dn (KS.set_up st (vp_updL (KS.up st) v6.toNatClampNeg v1)) (vp_updL (KS.dn st) v6.toNatClampNeg v3)) ((KS.cnt st) + 1)), rfl, hw, by rw [ht]; exact hP, hD⟩, hS.F ht⟩) hS.2.2 d_K_insert_109
    · skip
      have hw := hw.2 c7
      refine lv_aload_n hx hb d_K_insert_45 rfl (lv_at hl 0 rfl) ?_
      refine va_get (D := (dC, dI)) (ci := 0) (v := .ref (h 1)) (C := RK) (T := TK) (N := 3) hx hb hts i_K hown hK hP 0 rfl rfl 0 (by decide) (hts _ m_26) (fun _ h9 => h9) rfl d_K_insert_46 ?_
      refine lv_iload hx hb d_K_insert_49 (lv_at hl 4 rfl) ?_
      refine lv_aload_n hx hb d_K_insert_51 rfl (lv_at hl 0 rfl) ?_
      refine va_get (D := (dC, dI)) (ci := 0) (v := .ref (h 1)) (C := RK) (T := TK) (N := 3) hx hb hts i_K hown hK hP 0 rfl rfl 0 (by decide) (hts _ m_26) (fun _ h9 => h9) rfl d_K_insert_52 ?_
      refine lv_iload hx hb d_K_insert_55 (lv_at hl 4 rfl) ?_
      refine lv_iconst (v := 1) hx hb d_K_insert_57 (by decide) ?_
      refine lv_isub hx hb d_K_insert_58 ?_
      obtain ⟨h9, hw⟩ := hw
      refine va_lald hx hb hK hP 1 0 rfl rfl h9 d_K_insert_59 ?_
      obtain ⟨h10, hw⟩ := hw
      refine va_last hx hb hK hP hD hS 1 0 rfl rfl h10 d_K_insert_60 (fun H locs hP hD hS => ?_)
      have hP : va_P (dC, dI) vwCl (WK h k (KS.set_up st (vp_updL (KS.up st) v7.toNatClampNeg ((KS.up st) (v7 - 1).toNatClampNeg)))) H := hP
      have hD : va_D A (WK h k (KS.set_up st (vp_updL (KS.up st) v7.toNatClampNeg ((KS.up st) (v7 - 1).toNatClampNeg)))) := hD
      refine lv_aload_n hx hb d_K_insert_61 rfl (lv_at hl 0 rfl) ?_
      refine va_get (D := (dC, dI)) (ci := 0) (v := .ref (h 2)) (C := RK) (T := TK) (N := 3) hx hb hts i_K hown hK hP 0 rfl rfl 1 (by decide) (hts _ m_27) (fun _ h9 => h9) rfl d_K_insert_62 ?_
      refine lv_iload hx hb d_K_insert_65 (lv_at hl 4 rfl) ?_
      refine lv_aload_n hx hb d_K_insert_67 rfl (lv_at hl 0 rfl) ?_
      refine va_get (D := (dC, dI)) (ci := 0) (v := .ref (h 2)) (C := RK) (T := TK) (N := 3) hx hb hts i_K hown hK hP 0 rfl rfl 1 (by decide) (hts _ m_27) (fun _ h9 => h9) rfl d_K_insert_68 ?_
      refine lv_iload hx hb d_K_insert_71 (lv_at hl 4 rfl) ?_
      refine lv_iconst (v := 1) hx hb d_K_insert_73 (by decide) ?_
      refine lv_isub hx hb d_K_insert_74 ?_
      refine va_lald hx hb hK hP 2 1 rfl rfl h9 d_K_insert_75 ?_
      refine va_last hx hb hK hP hD hS 2 1 rfl rfl h10 d_K_insert_76 (fun H locs hP hD hS => ?_)
      have hP : va_P (dC, dI) vwCl (WK h k (KS.set_dn (KS.set_up st (vp_updL (KS.up st) v7.toNatClampNeg ((KS.up st) (v7 - 1).toNatClampNeg))) (vp_updL (KS.dn st) v7.toNatClampNeg ((KS.dn st) (v7 - 1).toNatClampNeg)))) H := hP
      have hD : va_D A (WK h k (KS.set_dn (KS.set_up st (vp_updL (KS.up st) v7.toNatClampNeg ((KS.up st) (v7 - 1).toNatClampNeg))) (vp_updL (KS.dn st) v7.toNatClampNeg ((KS.dn st) (v7 - 1).toNatClampNeg)))) := hD
      refine lv_iinc (v := (v7 + (-1))) (lv' := [(7, .int (v7 + (-1))), (0, .ref (h 0)), (1, .long v1), (3, .long v3), (6, .int v6)]) hx hb d_K_insert_77 hl (k := 4) rfl rfl (by decide) rfl (fun ls hl => ?_)
      refine lv_goto (tgt := 38) hx hb d_K_insert_80 (by decide) ?_
      exact ih (KS.set_dn (KS.set_up st (vp_updL (KS.up st) v7.toNatClampNeg ((KS.up st) (v7 - 1).toNatClampNeg))) (vp_updL (KS.dn st) v7.toNatClampNeg ((KS.dn st) (v7 - 1).toNatClampNeg))) v1 v3 v6 (v7 + (-1)) _ _ hP hD hS ls (lv_sub hl [1, 2, 3, 4, 0] rfl) hw
def w_K_insert (st : KS) (post : KS → Prop) (p0 : Int64) (p1 : Int64) : Prop := w_K_pieceOf st (fun r1 => (((r1 - r1 / 2 * 2) = 1 → (post st)) ∧ (¬ (r1 - r1 / 2 * 2) = 1 → (((KS.cnt st) < 15 → (∀ y4 : Int32, y4 = (r1 / 2) → (∀ y5 : Int32, y5 = (KS.cnt st) → (∃ z, w_K_insert_38 post z st p0 p1 y4 y5)))) ∧ (¬ (KS.cnt st) < 15 → (post st)))))) p0 p1
set_option maxHeartbeats 4000000 in
set_option maxRecDepth 100000 in
theorem t_K_insert (l : Launch) (dC : Nat → ClassId) (dI : Nat → Nat → Nat) (h : Nat → Nat) (k : Nat → ClassId) (sz : Nat) (st : KS) (p0 : Int64) (p1 : Int64) {post : KS → Prop} (hw : w_K_insert st post p0 p1) : Met l y_K_insert (Cond.code y_K_insert prog_2_method_2_code 8 none :: cw) ({ frames := 2, cells := 0, slots := 0, locals := 49 } : Room) (va_Pc [.ref (h 0), .long p0, .long p1] (pRw (dC, dI) (WK h k st) (YK k) sz)) (va_Qv post (fun u t => va_P (dC, dI) vwCl (WK h k u) t.heap ∧ va_D (va_A (WK h k st) sz) (WK h k u)) (va_A (WK h k st) sz)) 0 0 (va_A (WK h k st) sz) := by
  refine Met.ofW (cc := prog_2_method_2_code) (maxL := 8) (ret := none) (by decide) rfl ?_
  intro p e s m args below meth c s₁ B hml hv
  obtain ⟨rfl, hsz, hP, hK, hN, hD0⟩ := hv
  have hx := B.exec
  have hb := B.bytes
  have hr := B.returns
  have hts : ∀ w ∈ cw, w.before _ s = true := fun w h => atoms_spec (ws := (Cond.code y_K_insert prog_2_method_2_code 8 none :: cw)) B.pre w (List.mem_cons_of_mem _ h)
  have hown : s.vm.findClass RK = some m.cls := findClass_of_methodNamed B.named
  have hlocks := B.notSynchronized
  have C0 : cxt p s m _ meth c prog_2_method_2_code 8 RK none := ⟨hx, hb, hr, hml, hown, hts, hlocks⟩
  subst hsz
  have hD := hD0.self (sz := s.heap.size)
  generalize hAe : va_A (WK h k st) s.heap.size = A at hD ⊢
  have hA : ∀ q : Nat, s.heap.size ≤ q → A q := fun q h => by rw [← hAe]; exact Or.inr h
  have hS : va_S A s.heap s.heap [] := va_S.rf
  have hl := lv_entry ([.ref (h 0), .long p0, .long p1]) (n := 8) (Nat.le_of_ble_eq_true rfl)
  rw [lg_entry_eq]
  generalize (lg_sl ([.ref (h 0), .long p0, .long p1]) ++ List.replicate (8 - (lg_sl ([.ref (h 0), .long p0, .long p1])).length) Slot.unset).toArray = ls at hl ⊢
  have hl : lv_has ls 8 [(0, .ref (h 0)), (1, .long p0), (3, .long p1)] := hl
  unfold w_K_insert at hw
  refine lv_aload_n hx hb d_K_insert_0 rfl (lv_at hl 0 rfl) ?_
  refine lv_lload_n hx hb d_K_insert_1 rfl (lv_at hl 1 rfl) ?_
  refine lv_lload_n hx hb d_K_insert_2 rfl (lv_at hl 2 rfl) ?_
  refine vp_callSi (va_Run.run (va_runV (As := [.long p0, .long p1]) (rest := []) ⟨hx, hb, hml, hown, hts⟩ (t_K_pieceOf l dC dI h k st p0 p1 hw) (cwV 2 hts (gV m_57 m_58 m_59 m_2 (cw_call m_60)) rfl rfl rfl (by decide +kernel) ⟨Nat.le_of_ble_eq_true rfl, Nat.le_of_ble_eq_true rfl⟩) ⟨pRo_bl, va_recv hK hP (ci := 0) (q0 := 0) rfl rfl, fun U hU hW => ⟨rfl, pRo_at hP hK hN hU hW⟩⟩ rfl rfl hl.1 rfl (lv_room (Nat.le_of_ble_eq_true rfl)) d_K_insert_3 ⟨Nat.le_of_ble_eq_true rfl, Nat.le_of_ble_eq_true rfl⟩)) (fun r1 hw => ?_)
  refine lv_istore (lv' := [(5, .int r1), (0, .ref (h 0)), (1, .long p0), (3, .long p1)]) hx hb d_K_insert_6 hl (by decide) rfl (fun ls hl => ?_)
  refine lv_iload hx hb d_K_insert_8 (lv_at hl 0 rfl) ?_
  refine lv_iconst (v := 2) hx hb d_K_insert_10 (by decide) ?_
  refine lv_irem hx hb d_K_insert_11 (by decide) ?_
  refine lv_iconst (v := 1) hx hb d_K_insert_12 (by decide) ?_
  refine lv_icmp_eq (tgt := 25) hx hb d_K_insert_13 (by decide) (fun c2 => ?_) (fun c2 => ?_)
  · skip
    have hw := hw.1 c2
    exact W.vret hx hb hr (fun t ht hW => ⟨⟨st, rfl, hw, by rw [ht]; exact hP, hD⟩, hS.F ht⟩) hS.2.2 d_K_insert_25
  · skip
    have hw := hw.2 c2
    refine lv_aload_n hx hb d_K_insert_16 rfl (lv_at hl 1 rfl) ?_
    refine va_get (D := (dC, dI)) (ci := 0) (v := .int (KS.cnt st)) (C := RK) (T := TK) (N := 3) hx hb hts i_K hown hK hP 0 rfl rfl 2 (by decide) (hts _ m_28) (fun _ h9 => h9) rfl d_K_insert_17 ?_
    refine lv_bipush (v := 15) hx hb d_K_insert_20 (by decide) ?_
    refine lv_icmp_lt (tgt := 26) hx hb d_K_insert_22 (by decide) (fun c3 => ?_) (fun c3 => ?_)
    · skip
      have hw := hw.1 c3
      refine lv_iload hx hb d_K_insert_26 (lv_at hl 0 rfl) ?_
      refine lv_iconst (v := 2) hx hb d_K_insert_28 (by decide) ?_
      refine lv_idiv hx hb d_K_insert_29 (by decide) ?_
      refine lv_topi (fun y4 ey4 => ?_)
      have hw := hw y4 ey4
      refine lv_istore (lv' := [(6, .int y4), (5, .int r1), (0, .ref (h 0)), (1, .long p0), (3, .long p1)]) hx hb d_K_insert_30 hl (by decide) rfl (fun ls hl => ?_)
      refine lv_aload_n hx hb d_K_insert_32 rfl (lv_at hl 2 rfl) ?_
      refine va_get (D := (dC, dI)) (ci := 0) (v := .int (KS.cnt st)) (C := RK) (T := TK) (N := 3) hx hb hts i_K hown hK hP 0 rfl rfl 2 (by decide) (hts _ m_28) (fun _ h9 => h9) rfl d_K_insert_33 ?_
      refine lv_topi (fun y5 ey5 => ?_)
      have hw := hw y5 ey5
      refine lv_istore (lv' := [(7, .int y5), (6, .int y4), (5, .int r1), (0, .ref (h 0)), (1, .long p0), (3, .long p1)]) hx hb d_K_insert_36 hl (by decide) rfl (fun ls hl => ?_)
      obtain ⟨n6, hw⟩ := hw
      exact k_K_insert_38 C0 hK hN hA n6 st p0 p1 y4 y5 _ _ hP hD hS ls (lv_sub hl [3, 4, 5, 1, 0] rfl) hw
    · skip
      have hw := hw.2 c3
      exact W.vret hx hb hr (fun t ht hW => ⟨⟨st, rfl, hw, by rw [ht]; exact hP, hD⟩, hS.F ht⟩) hS.2.2 d_K_insert_25
