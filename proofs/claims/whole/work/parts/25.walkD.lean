def w_C_addCut (st : CS) (post : CS → Prop) (p0 : Int32) (p1 : Int32) : Prop := (p1 ≤ 0 → ((0 ≤ p1 → (post st)) ∧ (¬ 0 ≤ p1 → (w_K_insert (CS.cu st) (fun u3 => (post (CS.set_cu st u3))) (-p0).toInt64 (-p1).toInt64)))) ∧ (¬ p1 ≤ 0 → (w_K_insert (CS.cu st) (fun u4 => (post (CS.set_cu st u4))) p0.toInt64 p1.toInt64))
set_option maxHeartbeats 4000000 in
set_option maxRecDepth 100000 in
theorem t_C_addCut (l : Launch) (dC : Nat → ClassId) (dI : Nat → Nat → Nat) (h : Nat → Nat) (k : Nat → ClassId) (sz : Nat) (st : CS) (p0 : Int32) (p1 : Int32) {post : CS → Prop} (hw : w_C_addCut st post p0 p1) : Met l y_C_addCut (Cond.code y_C_addCut prog_1_method_25_code 3 none :: cw) ({ frames := 3, cells := 0, slots := 0, locals := 76 } : Room) (va_Pc [.ref (h 0), .int p0, .int p1] (pRw (dC, dI) (WC h k st) (YC k) sz)) (va_Qv post (fun u t => va_P (dC, dI) vwCl (WC h k u) t.heap ∧ va_D (va_A (WC h k st) sz) (WC h k u)) (va_A (WC h k st) sz)) 0 0 (va_A (WC h k st) sz) := by
  refine Met.ofW (cc := prog_1_method_25_code) (maxL := 3) (ret := none) (by decide) rfl ?_
  intro p e s m args below meth c s₁ B hml hv
  obtain ⟨rfl, hsz, hP, hK, hN, hD0⟩ := hv
  have hx := B.exec
  have hb := B.bytes
  have hr := B.returns
  have hts : ∀ w ∈ cw, w.before _ s = true := fun w h => atoms_spec (ws := (Cond.code y_C_addCut prog_1_method_25_code 3 none :: cw)) B.pre w (List.mem_cons_of_mem _ h)
  have hown : s.vm.findClass RC = some m.cls := findClass_of_methodNamed B.named
  have hlocks := B.notSynchronized
  have C0 : cxt p s m _ meth c prog_1_method_25_code 3 RC none := ⟨hx, hb, hr, hml, hown, hts, hlocks⟩
  subst hsz
  have hD := hD0.self (sz := s.heap.size)
  generalize hAe : va_A (WC h k st) s.heap.size = A at hD ⊢
  have hA : ∀ q : Nat, s.heap.size ≤ q → A q := fun q h => by rw [← hAe]; exact Or.inr h
  have hS : va_S A s.heap s.heap [] := va_S.rf
  have hl := lv_entry ([.ref (h 0), .int p0, .int p1]) (n := 3) (Nat.le_of_ble_eq_true rfl)
  rw [lg_entry_eq]
  generalize (lg_sl ([.ref (h 0), .int p0, .int p1]) ++ List.replicate (3 - (lg_sl ([.ref (h 0), .int p0, .int p1])).length) Slot.unset).toArray = ls at hl ⊢
  have hl : lv_has ls 3 [(0, .ref (h 0)), (1, .int p0), (2, .int p1)] := hl
  unfold w_C_addCut at hw
  refine lv_iload_n hx hb d_C_addCut_0 rfl (lv_at hl 2 rfl) ?_
  refine lv_if_le (tgt := 18) hx hb d_C_addCut_1 (by decide) (fun c1 => ?_) (fun c1 => ?_)
  · skip
    have hw := hw.1 c1
    refine lv_iload_n hx hb d_C_addCut_18 rfl (lv_at hl 2 rfl) ?_
    refine lv_if_ge (tgt := 35) hx hb d_C_addCut_19 (by decide) (fun c2 => ?_) (fun c2 => ?_)
    · skip
      have hw := hw.1 c2
      exact W.vret hx hb hr (fun t ht hW => ⟨⟨st, rfl, hw, by rw [ht]; exact hP, hD⟩, hS.F ht⟩) hS.2.2 d_C_addCut_35
    · skip
      have hw := hw.2 c2
      refine lv_aload_n hx hb d_C_addCut_22 rfl (lv_at hl 0 rfl) ?_
      refine va_get (D := (dC, dI)) (ci := 1) (v := .ref (h 4)) (C := RC) (T := TC) (N := 10) hx hb hts i_C hown hK hP 0 rfl rfl 4 (by decide) (hts _ m_109) (fun _ h9 => h9) rfl d_C_addCut_23 ?_
      refine lv_iload_n hx hb d_C_addCut_26 rfl (lv_at hl 1 rfl) ?_
      refine lv_ineg hx hb d_C_addCut_27 ?_
      refine lv_i2l (v := (-p0).toInt64) hx hb d_C_addCut_28 rfl ?_
      refine lv_iload_n hx hb d_C_addCut_29 rfl (lv_at hl 2 rfl) ?_
      refine lv_ineg hx hb d_C_addCut_30 ?_
      refine lv_i2l (v := (-p1).toInt64) hx hb d_C_addCut_31 rfl ?_
      have hPc := hP.sub (ws' := WK (fun i => h (4 + i)) (fun i => k (4 + i)) (CS.cu st)) [4, 5, 6] rfl
      have hKc := hK.sub (tys' := YK (fun i => k (4 + i))) [3, 4] rfl
      have hDc := hD.sub (ws' := WK (fun i => h (4 + i)) (fun i => k (4 + i)) (CS.cu st)) [4, 5, 6] (by decide) rfl
      have hFc := va_free (wc := WK (fun i => h (4 + i)) (fun i => k (4 + i)) (CS.cu st)) hD hS hA [4, 5, 6] rfl
      refine va_callv (va_runV (As := [.long (-p0).toInt64, .long (-p1).toInt64]) (rest := []) ⟨hx, hb, hml, hown, hts⟩ (t_K_insert l dC dI (fun i => h (4 + i)) (fun i => k (4 + i)) _ (CS.cu st) (-p0).toInt64 (-p1).toInt64 hw) (cwV 2 hts (gV m_53 m_54 m_55 m_2 (cw_call m_56)) rfl rfl rfl (by decide +kernel) ⟨Nat.le_of_ble_eq_true rfl, Nat.le_of_ble_eq_true rfl⟩) ⟨pRw_bl, va_recv hKc hPc (ci := 0) (q0 := 0) rfl rfl, fun U hU hW => ⟨rfl, pRw_at hPc hKc hN hDc hU hW⟩⟩ rfl rfl hl.1 rfl (lv_room (Nat.le_of_ble_eq_true rfl)) d_C_addCut_32 ⟨Nat.le_of_ble_eq_true rfl, Nat.le_of_ble_eq_true rfl⟩) hS (fun q _ h => hFc q h) hFc (fun u3 t H1 locs ht hvm hw hB hz1 hk1 hS => ?_)
      obtain ⟨hP1, hD1⟩ := hB
      rw [ht] at hP1
      obtain ⟨hP, hD⟩ := va_swap (pre := WC1 h k st) (wc := (WK (fun i => h (4 + i)) (fun i => k (4 + i)) (CS.cu st))) (w1 := WK (fun i => h (4 + i)) (fun i => k (4 + i)) u3) (post := (WK (fun i => h (7 + i)) (fun i => k (7 + i)) (CS.he st)) ++ WC2 h k st) hP hD hk1 hP1 rfl
      generalize H1 = H at hP hS ⊢
      have hP : va_P (dC, dI) vwCl (WC h k (CS.set_cu st u3)) H := hP
      have hD : va_D A (WC h k (CS.set_cu st u3)) := hD
      exact W.vret hx hb hr (fun t ht hW => ⟨⟨(CS.set_cu st u3), rfl, hw, by rw [ht]; exact hP, hD⟩, hS.F ht⟩) hS.2.2 d_C_addCut_35
  · skip
    have hw := hw.2 c1
    refine lv_aload_n hx hb d_C_addCut_4 rfl (lv_at hl 0 rfl) ?_
    refine va_get (D := (dC, dI)) (ci := 1) (v := .ref (h 4)) (C := RC) (T := TC) (N := 10) hx hb hts i_C hown hK hP 0 rfl rfl 4 (by decide) (hts _ m_109) (fun _ h9 => h9) rfl d_C_addCut_5 ?_
    refine lv_iload_n hx hb d_C_addCut_8 rfl (lv_at hl 1 rfl) ?_
    refine lv_i2l (v := p0.toInt64) hx hb d_C_addCut_9 rfl ?_
    refine lv_iload_n hx hb d_C_addCut_10 rfl (lv_at hl 2 rfl) ?_
    refine lv_i2l (v := p1.toInt64) hx hb d_C_addCut_11 rfl ?_
    have hPc := hP.sub (ws' := WK (fun i => h (4 + i)) (fun i => k (4 + i)) (CS.cu st)) [4, 5, 6] rfl
    have hKc := hK.sub (tys' := YK (fun i => k (4 + i))) [3, 4] rfl
    have hDc := hD.sub (ws' := WK (fun i => h (4 + i)) (fun i => k (4 + i)) (CS.cu st)) [4, 5, 6] (by decide) rfl
    have hFc := va_free (wc := WK (fun i => h (4 + i)) (fun i => k (4 + i)) (CS.cu st)) hD hS hA [4, 5, 6] rfl
    refine va_callv (va_runV (As := [.long p0.toInt64, .long p1.toInt64]) (rest := []) ⟨hx, hb, hml, hown, hts⟩ (t_K_insert l dC dI (fun i => h (4 + i)) (fun i => k (4 + i)) _ (CS.cu st) p0.toInt64 p1.toInt64 hw) (cwV 2 hts (gV m_53 m_54 m_55 m_2 (cw_call m_56)) rfl rfl rfl (by decide +kernel) ⟨Nat.le_of_ble_eq_true rfl, Nat.le_of_ble_eq_true rfl⟩) ⟨pRw_bl, va_recv hKc hPc (ci := 0) (q0 := 0) rfl rfl, fun U hU hW => ⟨rfl, pRw_at hPc hKc hN hDc hU hW⟩⟩ rfl rfl hl.1 rfl (lv_room (Nat.le_of_ble_eq_true rfl)) d_C_addCut_12 ⟨Nat.le_of_ble_eq_true rfl, Nat.le_of_ble_eq_true rfl⟩) hS (fun q _ h => hFc q h) hFc (fun u4 t H1 locs ht hvm hw hB hz1 hk1 hS => ?_)
    obtain ⟨hP1, hD1⟩ := hB
    rw [ht] at hP1
    obtain ⟨hP, hD⟩ := va_swap (pre := WC1 h k st) (wc := (WK (fun i => h (4 + i)) (fun i => k (4 + i)) (CS.cu st))) (w1 := WK (fun i => h (4 + i)) (fun i => k (4 + i)) u4) (post := (WK (fun i => h (7 + i)) (fun i => k (7 + i)) (CS.he st)) ++ WC2 h k st) hP hD hk1 hP1 rfl
    generalize H1 = H at hP hS ⊢
    have hP : va_P (dC, dI) vwCl (WC h k (CS.set_cu st u4)) H := hP
    have hD : va_D A (WC h k (CS.set_cu st u4)) := hD
    refine lv_goto (tgt := 35) hx hb d_C_addCut_15 (by decide) ?_
    exact W.vret hx hb hr (fun t ht hW => ⟨⟨(CS.set_cu st u4), rfl, hw, by rw [ht]; exact hP, hD⟩, hS.F ht⟩) hS.2.2 d_C_addCut_35
def w_C_gatherCuts_46 (post : CS → Prop) (K10 : CS → Int32 → Prop) : Nat → CS → Int32 → Int32 → Prop
  | 0, _, _, _ => False
  | n + 1, st, v1, v2 => (v1 ≤ v2 → (K10 st (v1 + 1))) ∧ (¬ v1 ≤ v2 → (vp_in v1 6 ∧ (vp_in v2 6 ∧ (w_C_addCut st (fun u11 => (w_C_gatherCuts_46 post K10 n u11 v1 (v2 + 1))) ((((CS.b st) v1.toNatClampNeg) * ((CS.c st) v2.toNatClampNeg)) - (((CS.b st) v2.toNatClampNeg) * ((CS.c st) v1.toNatClampNeg))) ((((CS.a st) v1.toNatClampNeg) * ((CS.b st) v2.toNatClampNeg)) - (((CS.a st) v2.toNatClampNeg) * ((CS.b st) v1.toNatClampNeg)))))))
set_option maxHeartbeats 4000000 in
set_option maxRecDepth 100000 in
theorem k_C_gatherCuts_46 {p : Program} {l : Launch} {e : Env} {s : State} {m : MethodId} {args : Array Value} {below : List Frame} {meth : Method} {c : Code} {dC : Nat → ClassId} {dI : Nat → Nat → Nat} {h : Nat → Nat} {k : Nat → ClassId} {A : Nat → Prop} {post : CS → Prop} {K10 : CS → Int32 → Prop} (C0 : cxt p s m args meth c prog_1_method_24_code 3 RC none) (hK : va_K (dC, dI) vwCl (YC k) s) (hN : va_Nw nestW s) (hA : ∀ q, s.heap.size ≤ q → A q) (hK10 : ∀ (st : CS) (v1 : Int32) (H : Heap) (locs : List Loc), va_P (dC, dI) vwCl (WC h k st) H → va_D A (WC h k st) → va_S A s.heap H locs → ∀ ls, lv_has ls 3 [(0, .ref (h 0)), (1, .int v1)] → K10 st v1 → W p l e ({ frames := 4, cells := 0, slots := 0, locals := 98 } : Room) s m args below meth c H locs 0 0 (MQ below (va_Qv post (fun u t => va_P (dC, dI) vwCl (WC h k u) t.heap ∧ va_D A (WC h k u)) A) args s 0 0 A) (F0 m 10 ls [])) : ∀ (n : Nat), ∀ (st : CS) (v1 : Int32) (v2 : Int32) (H : Heap) (locs : List Loc), va_P (dC, dI) vwCl (WC h k st) H → va_D A (WC h k st) → va_S A s.heap H locs → ∀ ls, lv_has ls 3 [(0, .ref (h 0)), (1, .int v1), (2, .int v2)] → w_C_gatherCuts_46 post K10 n st v1 v2 → W p l e ({ frames := 4, cells := 0, slots := 0, locals := 98 } : Room) s m args below meth c H locs 0 0 (MQ below (va_Qv post (fun u t => va_P (dC, dI) vwCl (WC h k u) t.heap ∧ va_D A (WC h k u)) A) args s 0 0 A) (F0 m 46 ls []) := by
  obtain ⟨hx, hb, hr, hml, hown, hts, hlocks⟩ := id C0
  intro n
  induction n with
  | zero =>
    intro st v1 v2 H locs hP hD hS ls hl hw
    exact False.elim hw
  | succ n ih =>
    intro st v1 v2 H locs hP hD hS ls hl hw
    rw [w_C_gatherCuts_46] at hw
    refine lv_iload_n hx hb d_C_gatherCuts_46 rfl (lv_at hl 2 rfl) ?_
    refine lv_iload_n hx hb d_C_gatherCuts_47 rfl (lv_at hl 1 rfl) ?_
    refine lv_icmp_ge (tgt := 115) hx hb d_C_gatherCuts_48 (by decide) (fun c8 => ?_) (fun c8 => ?_)
    · skip
      have hw := hw.1 c8
      refine lv_iinc (v := (v1 + 1)) (lv' := [(1, .int (v1 + 1)), (0, .ref (h 0)), (2, .int v2)]) hx hb d_C_gatherCuts_115 hl (k := 1) rfl rfl (by decide) rfl (fun ls hl => ?_)
      refine lv_goto (tgt := 10) hx hb d_C_gatherCuts_118 (by decide) ?_
      exact hK10 st (v1 + 1) _ _ hP hD hS ls (lv_sub hl [1, 0] rfl) hw
    · skip
      have hw := hw.2 c8
      refine lv_aload_n hx hb d_C_gatherCuts_51 rfl (lv_at hl 0 rfl) ?_
      refine lv_aload_n hx hb d_C_gatherCuts_52 rfl (lv_at hl 0 rfl) ?_
      refine va_get (D := (dC, dI)) (ci := 1) (v := .ref (h 2)) (C := RC) (T := TC) (N := 10) hx hb hts i_C hown hK hP 0 rfl rfl 1 (by decide) (hts _ m_106) (fun _ h9 => h9) rfl d_C_gatherCuts_53 ?_
      refine lv_iload_n hx hb d_C_gatherCuts_56 rfl (lv_at hl 1 rfl) ?_
      obtain ⟨h9, hw⟩ := hw
      refine va_iald hx hb hK hP 2 1 rfl rfl h9 d_C_gatherCuts_57 ?_
      refine lv_aload_n hx hb d_C_gatherCuts_58 rfl (lv_at hl 0 rfl) ?_
      refine va_get (D := (dC, dI)) (ci := 1) (v := .ref (h 3)) (C := RC) (T := TC) (N := 10) hx hb hts i_C hown hK hP 0 rfl rfl 2 (by decide) (hts _ m_107) (fun _ h9 => h9) rfl d_C_gatherCuts_59 ?_
      refine lv_iload_n hx hb d_C_gatherCuts_62 rfl (lv_at hl 2 rfl) ?_
      obtain ⟨h10, hw⟩ := hw
      refine va_iald hx hb hK hP 3 2 rfl rfl h10 d_C_gatherCuts_63 ?_
      refine lv_imul hx hb d_C_gatherCuts_64 ?_
      refine lv_aload_n hx hb d_C_gatherCuts_65 rfl (lv_at hl 0 rfl) ?_
      refine va_get (D := (dC, dI)) (ci := 1) (v := .ref (h 2)) (C := RC) (T := TC) (N := 10) hx hb hts i_C hown hK hP 0 rfl rfl 1 (by decide) (hts _ m_106) (fun _ h9 => h9) rfl d_C_gatherCuts_66 ?_
      refine lv_iload_n hx hb d_C_gatherCuts_69 rfl (lv_at hl 2 rfl) ?_
      refine va_iald hx hb hK hP 2 1 rfl rfl h10 d_C_gatherCuts_70 ?_
      refine lv_aload_n hx hb d_C_gatherCuts_71 rfl (lv_at hl 0 rfl) ?_
      refine va_get (D := (dC, dI)) (ci := 1) (v := .ref (h 3)) (C := RC) (T := TC) (N := 10) hx hb hts i_C hown hK hP 0 rfl rfl 2 (by decide) (hts _ m_107) (fun _ h9 => h9) rfl d_C_gatherCuts_72 ?_
      refine lv_iload_n hx hb d_C_gatherCuts_75 rfl (lv_at hl 1 rfl) ?_
      refine va_iald hx hb hK hP 3 2 rfl rfl h9 d_C_gatherCuts_76 ?_
      refine lv_imul hx hb d_C_gatherCuts_77 ?_
      refine lv_isub hx hb d_C_gatherCuts_78 ?_
      refine lv_aload_n hx hb d_C_gatherCuts_79 rfl (lv_at hl 0 rfl) ?_
      refine va_get (D := (dC, dI)) (ci := 1) (v := .ref (h 1)) (C := RC) (T := TC) (N := 10) hx hb hts i_C hown hK hP 0 rfl rfl 0 (by decide) (hts _ m_105) (fun _ h9 => h9) rfl d_C_gatherCuts_80 ?_
      refine lv_iload_n hx hb d_C_gatherCuts_83 rfl (lv_at hl 1 rfl) ?_
      refine va_iald hx hb hK hP 1 0 rfl rfl h9 d_C_gatherCuts_84 ?_
      refine lv_aload_n hx hb d_C_gatherCuts_85 rfl (lv_at hl 0 rfl) ?_
      refine va_get (D := (dC, dI)) (ci := 1) (v := .ref (h 2)) (C := RC) (T := TC) (N := 10) hx hb hts i_C hown hK hP 0 rfl rfl 1 (by decide) (hts _ m_106) (fun _ h9 => h9) rfl d_C_gatherCuts_86 ?_
      refine lv_iload_n hx hb d_C_gatherCuts_89 rfl (lv_at hl 2 rfl) ?_
      refine va_iald hx hb hK hP 2 1 rfl rfl h10 d_C_gatherCuts_90 ?_
      refine lv_imul hx hb d_C_gatherCuts_91 ?_
      refine lv_aload_n hx hb d_C_gatherCuts_92 rfl (lv_at hl 0 rfl) ?_
      refine va_get (D := (dC, dI)) (ci := 1) (v := .ref (h 1)) (C := RC) (T := TC) (N := 10) hx hb hts i_C hown hK hP 0 rfl rfl 0 (by decide) (hts _ m_105) (fun _ h9 => h9) rfl d_C_gatherCuts_93 ?_
      refine lv_iload_n hx hb d_C_gatherCuts_96 rfl (lv_at hl 2 rfl) ?_
      refine va_iald hx hb hK hP 1 0 rfl rfl h10 d_C_gatherCuts_97 ?_
      refine lv_aload_n hx hb d_C_gatherCuts_98 rfl (lv_at hl 0 rfl) ?_
      refine va_get (D := (dC, dI)) (ci := 1) (v := .ref (h 2)) (C := RC) (T := TC) (N := 10) hx hb hts i_C hown hK hP 0 rfl rfl 1 (by decide) (hts _ m_106) (fun _ h9 => h9) rfl d_C_gatherCuts_99 ?_
      refine lv_iload_n hx hb d_C_gatherCuts_102 rfl (lv_at hl 1 rfl) ?_
      refine va_iald hx hb hK hP 2 1 rfl rfl h9 d_C_gatherCuts_103 ?_
      refine lv_imul hx hb d_C_gatherCuts_104 ?_
      refine lv_isub hx hb d_C_gatherCuts_105 ?_
      have hFc := va_freeA hD hS hA
      refine va_callv (va_runV (As := [.int ((((CS.b st) v1.toNatClampNeg) * ((CS.c st) v2.toNatClampNeg)) - (((CS.b st) v2.toNatClampNeg) * ((CS.c st) v1.toNatClampNeg))), .int ((((CS.a st) v1.toNatClampNeg) * ((CS.b st) v2.toNatClampNeg)) - (((CS.a st) v2.toNatClampNeg) * ((CS.b st) v1.toNatClampNeg)))]) (rest := []) ⟨hx, hb, hml, hown, hts⟩ (t_C_addCut l dC dI h k _ st ((((CS.b st) v1.toNatClampNeg) * ((CS.c st) v2.toNatClampNeg)) - (((CS.b st) v2.toNatClampNeg) * ((CS.c st) v1.toNatClampNeg))) ((((CS.a st) v1.toNatClampNeg) * ((CS.b st) v2.toNatClampNeg)) - (((CS.a st) v2.toNatClampNeg) * ((CS.b st) v1.toNatClampNeg))) hw) (cwV 2 hts (gV m_49 m_51 s_2 m_1 (cw_call m_52)) rfl rfl rfl (by decide +kernel) ⟨Nat.le_of_ble_eq_true rfl, Nat.le_of_ble_eq_true rfl⟩) ⟨pRw_bl, va_recv hK hP (ci := 1) (q0 := 0) rfl rfl, fun U hU hW => ⟨rfl, pRw_at hP hK hN hD hU hW⟩⟩ rfl rfl hl.1 rfl (lv_room (Nat.le_of_ble_eq_true rfl)) d_C_gatherCuts_106 ⟨Nat.le_of_ble_eq_true rfl, Nat.le_of_ble_eq_true rfl⟩) hS (fun q _ h => hFc q h) hFc (fun u11 t H1 locs ht hvm hw hB hz1 hk1 hS => ?_)
      obtain ⟨hP1, hD1⟩ := hB
      rw [ht] at hP1
      have hP := hP1
      have hD := hD1.weaken (fun _ q _ h => hFc q.1 h)
      generalize H1 = H at hP hS ⊢
      have hP : va_P (dC, dI) vwCl (WC h k u11) H := hP
      have hD : va_D A (WC h k u11) := hD
      refine lv_iinc (v := (v2 + 1)) (lv' := [(2, .int (v2 + 1)), (0, .ref (h 0)), (1, .int v1)]) hx hb d_C_gatherCuts_109 hl (k := 2) rfl rfl (by decide) rfl (fun ls hl => ?_)
      refine lv_goto (tgt := 46) hx hb d_C_gatherCuts_112 (by decide) ?_
      exact ih u11 v1 (v2 + 1) _ _ hP hD hS ls (lv_sub hl [1, 2, 0] rfl) hw
def w_C_gatherCuts_10 (post : CS → Prop) : Nat → CS → Int32 → Prop
  | 0, _, _ => False
  | n + 1, st, v1 => ((CS.lc st) ≤ v1 → (post st)) ∧ (¬ (CS.lc st) ≤ v1 → (vp_in v1 6 ∧ ((¬ ((CS.b st) v1.toNatClampNeg) = 0 → (∃ z, w_C_gatherCuts_46 post (fun a0 a1 => w_C_gatherCuts_10 post n a0 a1) z st v1 0)) ∧ (((CS.b st) v1.toNatClampNeg) = 0 → (w_C_addCut st (fun u6 => (∃ z, w_C_gatherCuts_46 post (fun a0 a1 => w_C_gatherCuts_10 post n a0 a1) z u6 v1 0)) (-((CS.c st) v1.toNatClampNeg)) ((CS.a st) v1.toNatClampNeg))))))
set_option maxHeartbeats 4000000 in
set_option maxRecDepth 100000 in
theorem k_C_gatherCuts_10 {p : Program} {l : Launch} {e : Env} {s : State} {m : MethodId} {args : Array Value} {below : List Frame} {meth : Method} {c : Code} {dC : Nat → ClassId} {dI : Nat → Nat → Nat} {h : Nat → Nat} {k : Nat → ClassId} {A : Nat → Prop} {post : CS → Prop} (C0 : cxt p s m args meth c prog_1_method_24_code 3 RC none) (hK : va_K (dC, dI) vwCl (YC k) s) (hN : va_Nw nestW s) (hA : ∀ q, s.heap.size ≤ q → A q) : ∀ (n : Nat), ∀ (st : CS) (v1 : Int32) (H : Heap) (locs : List Loc), va_P (dC, dI) vwCl (WC h k st) H → va_D A (WC h k st) → va_S A s.heap H locs → ∀ ls, lv_has ls 3 [(0, .ref (h 0)), (1, .int v1)] → w_C_gatherCuts_10 post n st v1 → W p l e ({ frames := 4, cells := 0, slots := 0, locals := 98 } : Room) s m args below meth c H locs 0 0 (MQ below (va_Qv post (fun u t => va_P (dC, dI) vwCl (WC h k u) t.heap ∧ va_D A (WC h k u)) A) args s 0 0 A) (F0 m 10 ls []) := by
  obtain ⟨hx, hb, hr, hml, hown, hts, hlocks⟩ := id C0
  intro n
  induction n with
  | zero =>
    intro st v1 H locs hP hD hS ls hl hw
    exact False.elim hw
  | succ n ih =>
    intro st v1 H locs hP hD hS ls hl hw
    rw [w_C_gatherCuts_10] at hw
    refine lv_iload_n hx hb d_C_gatherCuts_10 rfl (lv_at hl 1 rfl) ?_
    refine lv_aload_n hx hb d_C_gatherCuts_11 rfl (lv_at hl 0 rfl) ?_
    refine va_get (D := (dC, dI)) (ci := 1) (v := .int (CS.lc st)) (C := RC) (T := TC) (N := 10) hx hb hts i_C hown hK hP 0 rfl rfl 3 (by decide) (hts _ m_108) (fun _ h9 => h9) rfl d_C_gatherCuts_12 ?_
    refine lv_icmp_ge (tgt := 121) hx hb d_C_gatherCuts_15 (by decide) (fun c2 => ?_) (fun c2 => ?_)
    · skip
      have hw := hw.1 c2
      exact W.vret hx hb hr (fun t ht hW => ⟨⟨st, rfl, hw, by rw [ht]; exact hP, hD⟩, hS.F ht⟩) hS.2.2 d_C_gatherCuts_121
    · skip
      have hw := hw.2 c2
      refine lv_aload_n hx hb d_C_gatherCuts_18 rfl (lv_at hl 0 rfl) ?_
      refine va_get (D := (dC, dI)) (ci := 1) (v := .ref (h 2)) (C := RC) (T := TC) (N := 10) hx hb hts i_C hown hK hP 0 rfl rfl 1 (by decide) (hts _ m_106) (fun _ h9 => h9) rfl d_C_gatherCuts_19 ?_
      refine lv_iload_n hx hb d_C_gatherCuts_22 rfl (lv_at hl 1 rfl) ?_
      obtain ⟨h3, hw⟩ := hw
      refine va_iald hx hb hK hP 2 1 rfl rfl h3 d_C_gatherCuts_23 ?_
      refine lv_if_ne (tgt := 44) hx hb d_C_gatherCuts_24 (by decide) (fun c4 => ?_) (fun c4 => ?_)
      · skip
        have hw := hw.1 c4
        refine lv_iconst (v := 0) hx hb d_C_gatherCuts_44 (by decide) ?_
        refine lv_istore_n (lv' := [(2, .int 0), (0, .ref (h 0)), (1, .int v1)]) hx hb d_C_gatherCuts_45 rfl hl (by decide) rfl (fun ls hl => ?_)
        obtain ⟨n5, hw⟩ := hw
        exact k_C_gatherCuts_46 C0 hK hN hA ih n5 st v1 0 _ _ hP hD hS ls (lv_sub hl [1, 2, 0] rfl) hw
      · skip
        have hw := hw.2 c4
        refine lv_aload_n hx hb d_C_gatherCuts_27 rfl (lv_at hl 0 rfl) ?_
        refine lv_aload_n hx hb d_C_gatherCuts_28 rfl (lv_at hl 0 rfl) ?_
        refine va_get (D := (dC, dI)) (ci := 1) (v := .ref (h 3)) (C := RC) (T := TC) (N := 10) hx hb hts i_C hown hK hP 0 rfl rfl 2 (by decide) (hts _ m_107) (fun _ h9 => h9) rfl d_C_gatherCuts_29 ?_
        refine lv_iload_n hx hb d_C_gatherCuts_32 rfl (lv_at hl 1 rfl) ?_
        refine va_iald hx hb hK hP 3 2 rfl rfl h3 d_C_gatherCuts_33 ?_
        refine lv_ineg hx hb d_C_gatherCuts_34 ?_
        refine lv_aload_n hx hb d_C_gatherCuts_35 rfl (lv_at hl 0 rfl) ?_
        refine va_get (D := (dC, dI)) (ci := 1) (v := .ref (h 1)) (C := RC) (T := TC) (N := 10) hx hb hts i_C hown hK hP 0 rfl rfl 0 (by decide) (hts _ m_105) (fun _ h9 => h9) rfl d_C_gatherCuts_36 ?_
        refine lv_iload_n hx hb d_C_gatherCuts_39 rfl (lv_at hl 1 rfl) ?_
        refine va_iald hx hb hK hP 1 0 rfl rfl h3 d_C_gatherCuts_40 ?_
        have hFc := va_freeA hD hS hA
        refine va_callv (va_runV (As := [.int (-((CS.c st) v1.toNatClampNeg)), .int ((CS.a st) v1.toNatClampNeg)]) (rest := []) ⟨hx, hb, hml, hown, hts⟩ (t_C_addCut l dC dI h k _ st (-((CS.c st) v1.toNatClampNeg)) ((CS.a st) v1.toNatClampNeg) hw) (cwV 2 hts (gV m_49 m_51 s_2 m_1 (cw_call m_52)) rfl rfl rfl (by decide +kernel) ⟨Nat.le_of_ble_eq_true rfl, Nat.le_of_ble_eq_true rfl⟩) ⟨pRw_bl, va_recv hK hP (ci := 1) (q0 := 0) rfl rfl, fun U hU hW => ⟨rfl, pRw_at hP hK hN hD hU hW⟩⟩ rfl rfl hl.1 rfl (lv_room (Nat.le_of_ble_eq_true rfl)) d_C_gatherCuts_41 ⟨Nat.le_of_ble_eq_true rfl, Nat.le_of_ble_eq_true rfl⟩) hS (fun q _ h => hFc q h) hFc (fun u6 t H1 locs ht hvm hw hB hz1 hk1 hS => ?_)
        obtain ⟨hP1, hD1⟩ := hB
        rw [ht] at hP1
        have hP := hP1
        have hD := hD1.weaken (fun _ q _ h => hFc q.1 h)
        generalize H1 = H at hP hS ⊢
        have hP : va_P (dC, dI) vwCl (WC h k u6) H := hP
        have hD : va_D A (WC h k u6) := hD
        refine lv_iconst (v := 0) hx hb d_C_gatherCuts_44 (by decide) ?_
        refine lv_istore_n (lv' := [(2, .int 0), (0, .ref (h 0)), (1, .int v1)]) hx hb d_C_gatherCuts_45 rfl hl (by decide) rfl (fun ls hl => ?_)
        obtain ⟨n7, hw⟩ := hw
        exact k_C_gatherCuts_46 C0 hK hN hA ih n7 u6 v1 0 _ _ hP hD hS ls (lv_sub hl [1, 2, 0] rfl) hw
def w_C_gatherCuts (st : CS) (post : CS → Prop) : Prop := ∃ z, w_C_gatherCuts_10 post z (CS.set_cu st (KS.set_cnt (CS.cu st) 0)) 0
set_option maxHeartbeats 4000000 in
set_option maxRecDepth 100000 in
theorem t_C_gatherCuts (l : Launch) (dC : Nat → ClassId) (dI : Nat → Nat → Nat) (h : Nat → Nat) (k : Nat → ClassId) (sz : Nat) (st : CS) {post : CS → Prop} (hw : w_C_gatherCuts st post) : Met l y_C_gatherCuts (Cond.code y_C_gatherCuts prog_1_method_24_code 3 none :: cw) ({ frames := 4, cells := 0, slots := 0, locals := 98 } : Room) (va_Pc [.ref (h 0)] (pRw (dC, dI) (WC h k st) (YC k) sz)) (va_Qv post (fun u t => va_P (dC, dI) vwCl (WC h k u) t.heap ∧ va_D (va_A (WC h k st) sz) (WC h k u)) (va_A (WC h k st) sz)) 0 0 (va_A (WC h k st) sz) := by
  refine Met.ofW (cc := prog_1_method_24_code) (maxL := 3) (ret := none) (by decide) rfl ?_
  intro p e s m args below meth c s₁ B hml hv
  obtain ⟨rfl, hsz, hP, hK, hN, hD0⟩ := hv
  have hx := B.exec
  have hb := B.bytes
  have hr := B.returns
  have hts : ∀ w ∈ cw, w.before _ s = true := fun w h => atoms_spec (ws := (Cond.code y_C_gatherCuts prog_1_method_24_code 3 none :: cw)) B.pre w (List.mem_cons_of_mem _ h)
  have hown : s.vm.findClass RC = some m.cls := findClass_of_methodNamed B.named
  have hlocks := B.notSynchronized
  have C0 : cxt p s m _ meth c prog_1_method_24_code 3 RC none := ⟨hx, hb, hr, hml, hown, hts, hlocks⟩
  subst hsz
  have hD := hD0.self (sz := s.heap.size)
  generalize hAe : va_A (WC h k st) s.heap.size = A at hD ⊢
  have hA : ∀ q : Nat, s.heap.size ≤ q → A q := fun q h => by rw [← hAe]; exact Or.inr h
  have hS : va_S A s.heap s.heap [] := va_S.rf
  have hl := lv_entry ([.ref (h 0)]) (n := 3) (Nat.le_of_ble_eq_true rfl)
  rw [lg_entry_eq]
  generalize (lg_sl ([.ref (h 0)]) ++ List.replicate (3 - (lg_sl ([.ref (h 0)])).length) Slot.unset).toArray = ls at hl ⊢
  have hl : lv_has ls 3 [(0, .ref (h 0))] := hl
  unfold w_C_gatherCuts at hw
  refine lv_aload_n hx hb d_C_gatherCuts_0 rfl (lv_at hl 0 rfl) ?_
  refine va_get (D := (dC, dI)) (ci := 1) (v := .ref (h 4)) (C := RC) (T := TC) (N := 10) hx hb hts i_C hown hK hP 0 rfl rfl 4 (by decide) (hts _ m_109) (fun _ h9 => h9) rfl d_C_gatherCuts_1 ?_
  refine lv_iconst (v := 0) hx hb d_C_gatherCuts_4 (by decide) ?_
  refine va_putN (D := (dC, dI)) (ci := 0) (v := .int 0) (ty := .int) (C := RK) (T := TK) (N := 3) hx hb hts i_K tyK tyK_ok nmK hown hK hP hD hS 4 rfl rfl 2 (by decide) (va_Nw.use rfl hN) (fun _ h9 => h9) rfl (by decide +kernel) rfl rfl (Nat.le_of_ble_eq_true rfl) d_C_gatherCuts_5 (fun H locs hP hD hS => ?_)
  have hP : va_P (dC, dI) vwCl (WC h k (CS.set_cu st (KS.set_cnt (CS.cu st) 0))) H := hP
  have hD : va_D A (WC h k (CS.set_cu st (KS.set_cnt (CS.cu st) 0))) := hD
  refine lv_iconst (v := 0) hx hb d_C_gatherCuts_8 (by decide) ?_
  refine lv_istore_n (lv' := [(1, .int 0), (0, .ref (h 0))]) hx hb d_C_gatherCuts_9 rfl hl (by decide) rfl (fun ls hl => ?_)
  obtain ⟨n1, hw⟩ := hw
  exact k_C_gatherCuts_10 C0 hK hN hA n1 (CS.set_cu st (KS.set_cnt (CS.cu st) 0)) 0 _ _ hP hD hS ls (lv_sub hl [1, 0] rfl) hw
def w_C_measureHeights_11 (post : CS → Prop) : Nat → CS → Int64 → Int64 → Int32 → Prop
  | 0, _, _, _, _ => False
  | n + 1, st, v1, v3, v5 => ((CS.lc st) ≤ v5 → (post st)) ∧ (¬ (CS.lc st) ≤ v5 → (vp_in v5 6 ∧ ((((CS.b st) v5.toNatClampNeg) = 0 → (w_C_measureHeights_11 post n st v1 v3 (v5 + 1))) ∧ (¬ ((CS.b st) v5.toNatClampNeg) = 0 → (w_C_heightAbove st (fun r5 => (w_C_heightBelow st (fun r6 => (w_K_insert (CS.he st) (fun u7 => (w_C_measureHeights_11 post n (CS.set_he st u7) v1 v3 (v5 + 1))) r5 r6)) v5 v3)) v5 v1 v3)))))
set_option maxHeartbeats 4000000 in
set_option maxRecDepth 100000 in
theorem k_C_measureHeights_11 {p : Program} {l : Launch} {e : Env} {s : State} {m : MethodId} {args : Array Value} {below : List Frame} {meth : Method} {c : Code} {dC : Nat → ClassId} {dI : Nat → Nat → Nat} {h : Nat → Nat} {k : Nat → ClassId} {A : Nat → Prop} {post : CS → Prop} (C0 : cxt p s m args meth c prog_1_method_27_code 6 RC none) (hK : va_K (dC, dI) vwCl (YC k) s) (hN : va_Nw nestW s) (hA : ∀ q, s.heap.size ≤ q → A q) : ∀ (n : Nat), ∀ (st : CS) (v1 : Int64) (v3 : Int64) (v5 : Int32) (H : Heap) (locs : List Loc), va_P (dC, dI) vwCl (WC h k st) H → va_D A (WC h k st) → va_S A s.heap H locs → ∀ ls, lv_has ls 6 [(0, .ref (h 0)), (1, .long v1), (3, .long v3), (5, .int v5)] → w_C_measureHeights_11 post n st v1 v3 v5 → W p l e ({ frames := 3, cells := 0, slots := 0, locals := 76 } : Room) s m args below meth c H locs 0 0 (MQ below (va_Qv post (fun u t => va_P (dC, dI) vwCl (WC h k u) t.heap ∧ va_D A (WC h k u)) A) args s 0 0 A) (F0 m 11 ls []) := by
  obtain ⟨hx, hb, hr, hml, hown, hts, hlocks⟩ := id C0
  intro n
  induction n with
  | zero =>
    intro st v1 v3 v5 H locs hP hD hS ls hl hw
    exact False.elim hw
  | succ n ih =>
    intro st v1 v3 v5 H locs hP hD hS ls hl hw
    rw [w_C_measureHeights_11] at hw
    refine lv_iload hx hb d_C_measureHeights_11 (lv_at hl 3 rfl) ?_
    refine lv_aload_n hx hb d_C_measureHeights_13 rfl (lv_at hl 0 rfl) ?_
    refine va_get (D := (dC, dI)) (ci := 1) (v := .int (CS.lc st)) (C := RC) (T := TC) (N := 10) hx hb hts i_C hown hK hP 0 rfl rfl 3 (by decide) (hts _ m_108) (fun _ h9 => h9) rfl d_C_measureHeights_14 ?_
    refine lv_icmp_ge (tgt := 58) hx hb d_C_measureHeights_17 (by decide) (fun c2 => ?_) (fun c2 => ?_)
    · skip
      have hw := hw.1 c2
      exact W.vret hx hb hr (fun t ht hW => ⟨⟨st, rfl, hw, by rw [ht]; exact hP, hD⟩, hS.F ht⟩) hS.2.2 d_C_measureHeights_58
    · skip
      have hw := hw.2 c2
      refine lv_aload_n hx hb d_C_measureHeights_20 rfl (lv_at hl 0 rfl) ?_
      refine va_get (D := (dC, dI)) (ci := 1) (v := .ref (h 2)) (C := RC) (T := TC) (N := 10) hx hb hts i_C hown hK hP 0 rfl rfl 1 (by decide) (hts _ m_106) (fun _ h9 => h9) rfl d_C_measureHeights_21 ?_
      refine lv_iload hx hb d_C_measureHeights_24 (lv_at hl 3 rfl) ?_
      obtain ⟨h3, hw⟩ := hw
      refine va_iald hx hb hK hP 2 1 rfl rfl h3 d_C_measureHeights_26 ?_
      refine lv_if_eq (tgt := 52) hx hb d_C_measureHeights_27 (by decide) (fun c4 => ?_) (fun c4 => ?_)
      · skip
        have hw := hw.1 c4
        refine lv_iinc (v := (v5 + 1)) (lv' := [(5, .int (v5 + 1)), (0, .ref (h 0)), (1, .long v1), (3, .long v3)]) hx hb d_C_measureHeights_52 hl (k := 3) rfl rfl (by decide) rfl (fun ls hl => ?_)
        refine lv_goto (tgt := 11) hx hb d_C_measureHeights_55 (by decide) ?_
        exact ih st v1 v3 (v5 + 1) _ _ hP hD hS ls (lv_sub hl [1, 2, 3, 0] rfl) hw
      · skip
        have hw := hw.2 c4
        refine lv_aload_n hx hb d_C_measureHeights_30 rfl (lv_at hl 0 rfl) ?_
        refine va_get (D := (dC, dI)) (ci := 1) (v := .ref (h 7)) (C := RC) (T := TC) (N := 10) hx hb hts i_C hown hK hP 0 rfl rfl 5 (by decide) (hts _ m_110) (fun _ h9 => h9) rfl d_C_measureHeights_31 ?_
        refine lv_aload_n hx hb d_C_measureHeights_34 rfl (lv_at hl 0 rfl) ?_
        refine lv_iload hx hb d_C_measureHeights_35 (lv_at hl 3 rfl) ?_
        refine lv_lload_n hx hb d_C_measureHeights_37 rfl (lv_at hl 1 rfl) ?_
        refine lv_lload_n hx hb d_C_measureHeights_38 rfl (lv_at hl 2 rfl) ?_
        refine vp_callSl (va_Run.run (va_runV (As := [.int v5, .long v1, .long v3]) (rest := [.ref (h 7)]) ⟨hx, hb, hml, hown, hts⟩ (t_C_heightAbove l dC dI h k st v5 v1 v3 hw) (cwV 3 hts (gV m_93 m_95 s_6 m_1 (cw_call m_96)) rfl rfl rfl (by decide +kernel) ⟨Nat.le_of_ble_eq_true rfl, Nat.le_of_ble_eq_true rfl⟩) ⟨pRo_bl, va_recv hK hP (ci := 1) (q0 := 0) rfl rfl, fun U hU hW => ⟨rfl, pRo_at hP hK hN hU hW⟩⟩ rfl rfl hl.1 rfl (lv_room (Nat.le_of_ble_eq_true rfl)) d_C_measureHeights_39 ⟨Nat.le_of_ble_eq_true rfl, Nat.le_of_ble_eq_true rfl⟩)) (fun r5 hw => ?_)
        refine lv_aload_n hx hb d_C_measureHeights_42 rfl (lv_at hl 0 rfl) ?_
        refine lv_iload hx hb d_C_measureHeights_43 (lv_at hl 3 rfl) ?_
        refine lv_lload_n hx hb d_C_measureHeights_45 rfl (lv_at hl 2 rfl) ?_
        refine vp_callSl (va_Run.run (va_runV (As := [.int v5, .long v3]) (rest := [.long r5, .ref (h 7)]) ⟨hx, hb, hml, hown, hts⟩ (t_C_heightBelow l dC dI h k st v5 v3 hw) (cwV 2 hts (gV m_97 m_99 s_7 m_1 (cw_call m_100)) rfl rfl rfl (by decide +kernel) ⟨Nat.le_of_ble_eq_true rfl, Nat.le_of_ble_eq_true rfl⟩) ⟨pRo_bl, va_recv hK hP (ci := 1) (q0 := 0) rfl rfl, fun U hU hW => ⟨rfl, pRo_at hP hK hN hU hW⟩⟩ rfl rfl hl.1 rfl (lv_room (Nat.le_of_ble_eq_true rfl)) d_C_measureHeights_46 ⟨Nat.le_of_ble_eq_true rfl, Nat.le_of_ble_eq_true rfl⟩)) (fun r6 hw => ?_)
        have hPc := hP.sub (ws' := WK (fun i => h (7 + i)) (fun i => k (7 + i)) (CS.he st)) [7, 8, 9] rfl
        have hKc := hK.sub (tys' := YK (fun i => k (7 + i))) [5, 6] rfl
        have hDc := hD.sub (ws' := WK (fun i => h (7 + i)) (fun i => k (7 + i)) (CS.he st)) [7, 8, 9] (by decide) rfl
        have hFc := va_free (wc := WK (fun i => h (7 + i)) (fun i => k (7 + i)) (CS.he st)) hD hS hA [7, 8, 9] rfl
        refine va_callv (va_runV (As := [.long r5, .long r6]) (rest := []) ⟨hx, hb, hml, hown, hts⟩ (t_K_insert l dC dI (fun i => h (7 + i)) (fun i => k (7 + i)) _ (CS.he st) r5 r6 hw) (cwV 2 hts (gV m_53 m_54 m_55 m_2 (cw_call m_56)) rfl rfl rfl (by decide +kernel) ⟨Nat.le_of_ble_eq_true rfl, Nat.le_of_ble_eq_true rfl⟩) ⟨pRw_bl, va_recv hKc hPc (ci := 0) (q0 := 0) rfl rfl, fun U hU hW => ⟨rfl, pRw_at hPc hKc hN hDc hU hW⟩⟩ rfl rfl hl.1 rfl (lv_room (Nat.le_of_ble_eq_true rfl)) d_C_measureHeights_49 ⟨Nat.le_of_ble_eq_true rfl, Nat.le_of_ble_eq_true rfl⟩) hS (fun q _ h => hFc q h) hFc (fun u7 t H1 locs ht hvm hw hB hz1 hk1 hS => ?_)
        obtain ⟨hP1, hD1⟩ := hB
        rw [ht] at hP1
        obtain ⟨hP, hD⟩ := va_swap (pre := WC1 h k st ++ (WK (fun i => h (4 + i)) (fun i => k (4 + i)) (CS.cu st))) (wc := (WK (fun i => h (7 + i)) (fun i => k (7 + i)) (CS.he st))) (w1 := WK (fun i => h (7 + i)) (fun i => k (7 + i)) u7) (post := WC2 h k st) hP hD hk1 hP1 rfl
        generalize H1 = H at hP hS ⊢
        have hP : va_P (dC, dI) vwCl (WC h k (CS.set_he st u7)) H := hP
        have hD : va_D A (WC h k (CS.set_he st u7)) := hD
        refine lv_iinc (v := (v5 + 1)) (lv' := [(5, .int (v5 + 1)), (0, .ref (h 0)), (1, .long v1), (3, .long v3)]) hx hb d_C_measureHeights_52 hl (k := 3) rfl rfl (by decide) rfl (fun ls hl => ?_)
        refine lv_goto (tgt := 11) hx hb d_C_measureHeights_55 (by decide) ?_
        exact ih (CS.set_he st u7) v1 v3 (v5 + 1) _ _ hP hD hS ls (lv_sub hl [1, 2, 3, 0] rfl) hw
def w_C_measureHeights (st : CS) (post : CS → Prop) (p0 : Int64) (p1 : Int64) : Prop := ∃ z, w_C_measureHeights_11 post z (CS.set_he st (KS.set_cnt (CS.he st) 0)) p0 p1 0
set_option maxHeartbeats 4000000 in
set_option maxRecDepth 100000 in
theorem t_C_measureHeights (l : Launch) (dC : Nat → ClassId) (dI : Nat → Nat → Nat) (h : Nat → Nat) (k : Nat → ClassId) (sz : Nat) (st : CS) (p0 : Int64) (p1 : Int64) {post : CS → Prop} (hw : w_C_measureHeights st post p0 p1) : Met l y_C_measureHeights (Cond.code y_C_measureHeights prog_1_method_27_code 6 none :: cw) ({ frames := 3, cells := 0, slots := 0, locals := 76 } : Room) (va_Pc [.ref (h 0), .long p0, .long p1] (pRw (dC, dI) (WC h k st) (YC k) sz)) (va_Qv post (fun u t => va_P (dC, dI) vwCl (WC h k u) t.heap ∧ va_D (va_A (WC h k st) sz) (WC h k u)) (va_A (WC h k st) sz)) 0 0 (va_A (WC h k st) sz) := by
  refine Met.ofW (cc := prog_1_method_27_code) (maxL := 6) (ret := none) (by decide) rfl ?_
  intro p e s m args below meth c s₁ B hml hv
  obtain ⟨rfl, hsz, hP, hK, hN, hD0⟩ := hv
  have hx := B.exec
  have hb := B.bytes
  have hr := B.returns
  have hts : ∀ w ∈ cw, w.before _ s = true := fun w h => atoms_spec (ws := (Cond.code y_C_measureHeights prog_1_method_27_code 6 none :: cw)) B.pre w (List.mem_cons_of_mem _ h)
  have hown : s.vm.findClass RC = some m.cls := findClass_of_methodNamed B.named
  have hlocks := B.notSynchronized
  have C0 : cxt p s m _ meth c prog_1_method_27_code 6 RC none := ⟨hx, hb, hr, hml, hown, hts, hlocks⟩
  subst hsz
  have hD := hD0.self (sz := s.heap.size)
  generalize hAe : va_A (WC h k st) s.heap.size = A at hD ⊢
  have hA : ∀ q : Nat, s.heap.size ≤ q → A q := fun q h => by rw [← hAe]; exact Or.inr h
  have hS : va_S A s.heap s.heap [] := va_S.rf
  have hl := lv_entry ([.ref (h 0), .long p0, .long p1]) (n := 6) (Nat.le_of_ble_eq_true rfl)
  rw [lg_entry_eq]
  generalize (lg_sl ([.ref (h 0), .long p0, .long p1]) ++ List.replicate (6 - (lg_sl ([.ref (h 0), .long p0, .long p1])).length) Slot.unset).toArray = ls at hl ⊢
  have hl : lv_has ls 6 [(0, .ref (h 0)), (1, .long p0), (3, .long p1)] := hl
  unfold w_C_measureHeights at hw
  refine lv_aload_n hx hb d_C_measureHeights_0 rfl (lv_at hl 0 rfl) ?_
  refine va_get (D := (dC, dI)) (ci := 1) (v := .ref (h 7)) (C := RC) (T := TC) (N := 10) hx hb hts i_C hown hK hP 0 rfl rfl 5 (by decide) (hts _ m_110) (fun _ h9 => h9) rfl d_C_measureHeights_1 ?_
  refine lv_iconst (v := 0) hx hb d_C_measureHeights_4 (by decide) ?_
  refine va_putN (D := (dC, dI)) (ci := 0) (v := .int 0) (ty := .int) (C := RK) (T := TK) (N := 3) hx hb hts i_K tyK tyK_ok nmK hown hK hP hD hS 7 rfl rfl 2 (by decide) (va_Nw.use rfl hN) (fun _ h9 => h9) rfl (by decide +kernel) rfl rfl (Nat.le_of_ble_eq_true rfl) d_C_measureHeights_5 (fun H locs hP hD hS => ?_)
  have hP : va_P (dC, dI) vwCl (WC h k (CS.set_he st (KS.set_cnt (CS.he st) 0))) H := hP
  have hD : va_D A (WC h k (CS.set_he st (KS.set_cnt (CS.he st) 0))) := hD
  refine lv_iconst (v := 0) hx hb d_C_measureHeights_8 (by decide) ?_
  refine lv_istore (lv' := [(5, .int 0), (0, .ref (h 0)), (1, .long p0), (3, .long p1)]) hx hb d_C_measureHeights_9 hl (by decide) rfl (fun ls hl => ?_)
  obtain ⟨n1, hw⟩ := hw
  exact k_C_measureHeights_11 C0 hK hN hA n1 (CS.set_he st (KS.set_cnt (CS.he st) 0)) p0 p1 0 _ _ hP hD hS ls (lv_sub hl [1, 2, 3, 0] rfl) hw
def w_C_layStrip_46 (post : CS → Prop) : Nat → CS → Int32 → Int64 → Int64 → Int32 → Prop
  | 0, _, _, _, _, _ => False
  | n + 1, st, v1, v2, v4, v6 => ((CS.lc st) ≤ v6 → (vp_in v1 32 ∧ (vp_in (v1 + 1) 32 ∧ (post (CS.set_fc st (upd (CS.fc st) (v1 + 1).toNatClampNeg ((((CS.fc st) v1.toNatClampNeg) + (2 * (KS.cnt (CS.he st)))) + 1))))))) ∧ (¬ (CS.lc st) ≤ v6 → (vp_in v1 31 ∧ (vp_in v6 6 ∧ ((¬ ((CS.b st) v6.toNatClampNeg) = 0 → (w_C_heightAbove st (fun r12 => (w_C_heightBelow st (fun r13 => (w_K_pieceOf (CS.he st) (fun r14 => (w_C_layStrip_46 post n (CS.set_pl st (va_up (CS.pl st) v1.toNatClampNeg (upd ((CS.pl st) v1.toNatClampNeg) v6.toNatClampNeg r14))) v1 v2 v4 (v6 + 1))) r12 r13)) v6 v4)) v6 v2 v4)) ∧ (((CS.b st) v6.toNatClampNeg) = 0 → (w_C_layStrip_46 post n (CS.set_pl st (va_up (CS.pl st) v1.toNatClampNeg (upd ((CS.pl st) v1.toNatClampNeg) v6.toNatClampNeg (-1)))) v1 v2 v4 (v6 + 1)))))))
set_option maxHeartbeats 4000000 in
set_option maxRecDepth 100000 in
theorem k_C_layStrip_46 {p : Program} {l : Launch} {e : Env} {s : State} {m : MethodId} {args : Array Value} {below : List Frame} {meth : Method} {c : Code} {dC : Nat → ClassId} {dI : Nat → Nat → Nat} {h : Nat → Nat} {k : Nat → ClassId} {A : Nat → Prop} {post : CS → Prop} (C0 : cxt p s m args meth c prog_1_method_26_code 7 RC none) (hK : va_K (dC, dI) vwCl (YC k) s) (hN : va_Nw nestW s) (hA : ∀ q, s.heap.size ≤ q → A q) : ∀ (n : Nat), ∀ (st : CS) (v1 : Int32) (v2 : Int64) (v4 : Int64) (v6 : Int32) (H : Heap) (locs : List Loc), va_P (dC, dI) vwCl (WC h k st) H → va_D A (WC h k st) → va_S A s.heap H locs → ∀ ls, lv_has ls 7 [(0, .ref (h 0)), (1, .int v1), (2, .long v2), (4, .long v4), (6, .int v6)] → w_C_layStrip_46 post n st v1 v2 v4 v6 → W p l e ({ frames := 4, cells := 0, slots := 0, locals := 104 } : Room) s m args below meth c H locs 0 0 (MQ below (va_Qv post (fun u t => va_P (dC, dI) vwCl (WC h k u) t.heap ∧ va_D A (WC h k u)) A) args s 0 0 A) (F0 m 46 ls []) := by
  obtain ⟨hx, hb, hr, hml, hown, hts, hlocks⟩ := id C0
  intro n
  induction n with
  | zero =>
    intro st v1 v2 v4 v6 H locs hP hD hS ls hl hw
    exact False.elim hw
  | succ n ih =>
    intro st v1 v2 v4 v6 H locs hP hD hS ls hl hw
    rw [w_C_layStrip_46] at hw
    refine lv_iload hx hb d_C_layStrip_46 (lv_at hl 4 rfl) ?_
    refine lv_aload_n hx hb d_C_layStrip_48 rfl (lv_at hl 0 rfl) ?_
    refine va_get (D := (dC, dI)) (ci := 1) (v := .int (CS.lc st)) (C := RC) (T := TC) (N := 10) hx hb hts i_C hown hK hP 0 rfl rfl 3 (by decide) (hts _ m_108) (fun _ h9 => h9) rfl d_C_layStrip_49 ?_
    refine lv_icmp_ge (tgt := 108) hx hb d_C_layStrip_52 (by decide) (fun c6 => ?_) (fun c6 => ?_)
    · skip
      have hw := hw.1 c6
      refine lv_aload_n hx hb d_C_layStrip_108 rfl (lv_at hl 0 rfl) ?_
      refine va_get (D := (dC, dI)) (ci := 1) (v := .ref (h 13)) (C := RC) (T := TC) (N := 10) hx hb hts i_C hown hK hP 0 rfl rfl 9 (by decide) (hts _ m_114) (fun _ h9 => h9) rfl d_C_layStrip_109 ?_
      refine lv_iload_n hx hb d_C_layStrip_112 rfl (lv_at hl 1 rfl) ?_
      refine lv_iconst (v := 1) hx hb d_C_layStrip_113 (by decide) ?_
      refine lv_iadd hx hb d_C_layStrip_114 ?_
      refine lv_aload_n hx hb d_C_layStrip_115 rfl (lv_at hl 0 rfl) ?_
      refine va_get (D := (dC, dI)) (ci := 1) (v := .ref (h 13)) (C := RC) (T := TC) (N := 10) hx hb hts i_C hown hK hP 0 rfl rfl 9 (by decide) (hts _ m_114) (fun _ h9 => h9) rfl d_C_layStrip_116 ?_
      refine lv_iload_n hx hb d_C_layStrip_119 rfl (lv_at hl 1 rfl) ?_
      obtain ⟨h7, hw⟩ := hw
      refine va_iald hx hb hK hP 13 10 rfl rfl h7 d_C_layStrip_120 ?_
      refine lv_iconst (v := 2) hx hb d_C_layStrip_121 (by decide) ?_
      refine lv_aload_n hx hb d_C_layStrip_122 rfl (lv_at hl 0 rfl) ?_
      refine va_get (D := (dC, dI)) (ci := 1) (v := .ref (h 7)) (C := RC) (T := TC) (N := 10) hx hb hts i_C hown hK hP 0 rfl rfl 5 (by decide) (hts _ m_110) (fun _ h9 => h9) rfl d_C_layStrip_123 ?_
      refine va_getN (D := (dC, dI)) (ci := 0) (v := .int (KS.cnt (CS.he st))) (C := RK) (T := TK) (N := 3) hx hb hts i_K hown hK hP 7 rfl rfl 2 (by decide) (va_Nw.use rfl hN) (fun _ h9 => h9) rfl d_C_layStrip_126 ?_
      refine lv_imul hx hb d_C_layStrip_129 ?_
      refine lv_iadd hx hb d_C_layStrip_130 ?_
      refine lv_iconst (v := 1) hx hb d_C_layStrip_131 (by decide) ?_
      refine lv_iadd hx hb d_C_layStrip_132 ?_
      obtain ⟨h8, hw⟩ := hw
      refine va_iast hx hb hK hP hD hS 13 10 rfl rfl h8 d_C_layStrip_133 (fun H locs hP hD hS => ?_)
      have hP : va_P (dC, dI) vwCl (WC h k (CS.set_fc st (upd (CS.fc st) (v1 + 1).toNatClampNeg ((((CS.fc st) v1.toNatClampNeg) + (2 * (KS.cnt (CS.he st)))) + 1)))) H := hP
      have hD : va_D A (WC h k (CS.set_fc st (upd (CS.fc st) (v1 + 1).toNatClampNeg ((((CS.fc st) v1.toNatClampNeg) + (2 * (KS.cnt (CS.he st)))) + 1)))) := hD
      exact W.vret hx hb hr (fun t ht hW => ⟨⟨(CS.set_fc st (upd (CS.fc st) (v1 + 1).toNatClampNeg ((((CS.fc st) v1.toNatClampNeg) + (2 * (KS.cnt (CS.he st)))) + 1))), rfl, hw, by rw [ht]; exact hP, hD⟩, hS.F ht⟩) hS.2.2 d_C_layStrip_134
    · skip
      have hw := hw.2 c6
      refine lv_aload_n hx hb d_C_layStrip_55 rfl (lv_at hl 0 rfl) ?_
      refine va_get (D := (dC, dI)) (ci := 1) (v := .ref (h 12)) (C := RC) (T := TC) (N := 10) hx hb hts i_C hown hK hP 0 rfl rfl 8 (by decide) (hts _ m_113) (fun _ h9 => h9) rfl d_C_layStrip_56 ?_
      refine lv_iload_n hx hb d_C_layStrip_59 rfl (lv_at hl 1 rfl) ?_
      obtain ⟨h9, hw⟩ := hw
      refine va_aldC (r := fun i => h (i + 14)) hx hb hK hP 12 9 rfl rfl h9 d_C_layStrip_60 ?_
      refine W.eq (g2 := F0 m 61 ls (.ref (h (v1.toNatClampNeg + 14)) :: [])) rfl ?_
      refine lv_iload hx hb d_C_layStrip_61 (lv_at hl 4 rfl) ?_
      refine lv_aload_n hx hb d_C_layStrip_63 rfl (lv_at hl 0 rfl) ?_
      refine va_get (D := (dC, dI)) (ci := 1) (v := .ref (h 2)) (C := RC) (T := TC) (N := 10) hx hb hts i_C hown hK hP 0 rfl rfl 1 (by decide) (hts _ m_106) (fun _ h9 => h9) rfl d_C_layStrip_64 ?_
      refine lv_iload hx hb d_C_layStrip_67 (lv_at hl 4 rfl) ?_
      obtain ⟨h10, hw⟩ := hw
      refine va_iald hx hb hK hP 2 1 rfl rfl h10 d_C_layStrip_69 ?_
      refine lv_if_ne (tgt := 77) hx hb d_C_layStrip_70 (by decide) (fun c11 => ?_) (fun c11 => ?_)
      · skip
        have hw := hw.1 c11
        refine lv_aload_n hx hb d_C_layStrip_77 rfl (lv_at hl 0 rfl) ?_
        refine va_get (D := (dC, dI)) (ci := 1) (v := .ref (h 7)) (C := RC) (T := TC) (N := 10) hx hb hts i_C hown hK hP 0 rfl rfl 5 (by decide) (hts _ m_110) (fun _ h9 => h9) rfl d_C_layStrip_78 ?_
        refine lv_aload_n hx hb d_C_layStrip_81 rfl (lv_at hl 0 rfl) ?_
        refine lv_iload hx hb d_C_layStrip_82 (lv_at hl 4 rfl) ?_
        refine lv_lload_n hx hb d_C_layStrip_84 rfl (lv_at hl 2 rfl) ?_
        refine lv_lload hx hb d_C_layStrip_85 (lv_at hl 3 rfl) ?_
        refine vp_callSl (va_Run.run (va_runV (As := [.int v6, .long v2, .long v4]) (rest := [.ref (h 7), .int v6, .ref (h (v1.toNatClampNeg + 14))]) ⟨hx, hb, hml, hown, hts⟩ (t_C_heightAbove l dC dI h k st v6 v2 v4 hw) (cwV 3 hts (gV m_93 m_95 s_6 m_1 (cw_call m_96)) rfl rfl rfl (by decide +kernel) ⟨Nat.le_of_ble_eq_true rfl, Nat.le_of_ble_eq_true rfl⟩) ⟨pRo_bl, va_recv hK hP (ci := 1) (q0 := 0) rfl rfl, fun U hU hW => ⟨rfl, pRo_at hP hK hN hU hW⟩⟩ rfl rfl hl.1 rfl (lv_room (Nat.le_of_ble_eq_true rfl)) d_C_layStrip_87 ⟨Nat.le_of_ble_eq_true rfl, Nat.le_of_ble_eq_true rfl⟩)) (fun r12 hw => ?_)
        refine lv_aload_n hx hb d_C_layStrip_90 rfl (lv_at hl 0 rfl) ?_
        refine lv_iload hx hb d_C_layStrip_91 (lv_at hl 4 rfl) ?_
        refine lv_lload hx hb d_C_layStrip_93 (lv_at hl 3 rfl) ?_
        refine vp_callSl (va_Run.run (va_runV (As := [.int v6, .long v4]) (rest := [.long r12, .ref (h 7), .int v6, .ref (h (v1.toNatClampNeg + 14))]) ⟨hx, hb, hml, hown, hts⟩ (t_C_heightBelow l dC dI h k st v6 v4 hw) (cwV 2 hts (gV m_97 m_99 s_7 m_1 (cw_call m_100)) rfl rfl rfl (by decide +kernel) ⟨Nat.le_of_ble_eq_true rfl, Nat.le_of_ble_eq_true rfl⟩) ⟨pRo_bl, va_recv hK hP (ci := 1) (q0 := 0) rfl rfl, fun U hU hW => ⟨rfl, pRo_at hP hK hN hU hW⟩⟩ rfl rfl hl.1 rfl (lv_room (Nat.le_of_ble_eq_true rfl)) d_C_layStrip_95 ⟨Nat.le_of_ble_eq_true rfl, Nat.le_of_ble_eq_true rfl⟩)) (fun r13 hw => ?_)
        have hPc := hP.sub (ws' := WK (fun i => h (7 + i)) (fun i => k (7 + i)) (CS.he st)) [7, 8, 9] rfl
        have hKc := hK.sub (tys' := YK (fun i => k (7 + i))) [5, 6] rfl
        refine vp_callSi (va_Run.run (va_runV (As := [.long r12, .long r13]) (rest := [.int v6, .ref (h (v1.toNatClampNeg + 14))]) ⟨hx, hb, hml, hown, hts⟩ (t_K_pieceOf l dC dI (fun i => h (7 + i)) (fun i => k (7 + i)) (CS.he st) r12 r13 hw) (cwV 2 hts (gV m_104 m_58 m_59 m_2 (cw_call m_60)) rfl rfl rfl (by decide +kernel) ⟨Nat.le_of_ble_eq_true rfl, Nat.le_of_ble_eq_true rfl⟩) ⟨pRo_bl, va_recv hKc hPc (ci := 0) (q0 := 0) rfl rfl, fun U hU hW => ⟨rfl, pRo_at hPc hKc hN hU hW⟩⟩ rfl rfl hl.1 rfl (lv_room (Nat.le_of_ble_eq_true rfl)) d_C_layStrip_98 ⟨Nat.le_of_ble_eq_true rfl, Nat.le_of_ble_eq_true rfl⟩)) (fun r14 hw => ?_)
        refine va_iast hx hb hK hP hD hS (v1.toNatClampNeg + 14) 11 (wc_row (clamp_lt h9)) rfl h10 d_C_layStrip_101 (fun H locs hP hD hS => ?_)
        rw [wc_set (clamp_lt h9)] at hP hD
        have hP : va_P (dC, dI) vwCl (WC h k (CS.set_pl st (va_up (CS.pl st) v1.toNatClampNeg (upd ((CS.pl st) v1.toNatClampNeg) v6.toNatClampNeg r14)))) H := hP
        have hD : va_D A (WC h k (CS.set_pl st (va_up (CS.pl st) v1.toNatClampNeg (upd ((CS.pl st) v1.toNatClampNeg) v6.toNatClampNeg r14)))) := hD
        refine lv_iinc (v := (v6 + 1)) (lv' := [(6, .int (v6 + 1)), (0, .ref (h 0)), (1, .int v1), (2, .long v2), (4, .long v4)]) hx hb d_C_layStrip_102 hl (k := 4) rfl rfl (by decide) rfl (fun ls hl => ?_)
        refine lv_goto (tgt := 46) hx hb d_C_layStrip_105 (by decide) ?_
        exact ih (CS.set_pl st (va_up (CS.pl st) v1.toNatClampNeg (upd ((CS.pl st) v1.toNatClampNeg) v6.toNatClampNeg r14))) v1 v2 v4 (v6 + 1) _ _ hP hD hS ls (lv_sub hl [1, 2, 3, 4, 0] rfl) hw
      · skip
        have hw := hw.2 c11
        refine lv_iconst (v := (-1)) hx hb d_C_layStrip_73 (by decide) ?_
        refine lv_goto (tgt := 101) hx hb d_C_layStrip_74 (by decide) ?_
        refine va_iast hx hb hK hP hD hS (v1.toNatClampNeg + 14) 11 (wc_row (clamp_lt h9)) rfl h10 d_C_layStrip_101 (fun H locs hP hD hS => ?_)
        rw [wc_set (clamp_lt h9)] at hP hD
        have hP : va_P (dC, dI) vwCl (WC h k (CS.set_pl st (va_up (CS.pl st) v1.toNatClampNeg (upd ((CS.pl st) v1.toNatClampNeg) v6.toNatClampNeg (-1))))) H := hP
        have hD : va_D A (WC h k (CS.set_pl st (va_up (CS.pl st) v1.toNatClampNeg (upd ((CS.pl st) v1.toNatClampNeg) v6.toNatClampNeg (-1))))) := hD
        refine lv_iinc (v := (v6 + 1)) (lv' := [(6, .int (v6 + 1)), (0, .ref (h 0)), (1, .int v1), (2, .long v2), (4, .long v4)]) hx hb d_C_layStrip_102 hl (k := 4) rfl rfl (by decide) rfl (fun ls hl => ?_)
        refine lv_goto (tgt := 46) hx hb d_C_layStrip_105 (by decide) ?_
        exact ih (CS.set_pl st (va_up (CS.pl st) v1.toNatClampNeg (upd ((CS.pl st) v1.toNatClampNeg) v6.toNatClampNeg (-1)))) v1 v2 v4 (v6 + 1) _ _ hP hD hS ls (lv_sub hl [1, 2, 3, 4, 0] rfl) hw
def w_C_layStrip (st : CS) (post : CS → Prop) (p0 : Int32) : Prop := w_K_samplePart (CS.cu st) (fun r1 => (w_K_samplePart (CS.cu st) (fun r2 => (vp_in p0 31 ∧ (w_C_measureHeights (CS.set_sb (CS.set_sa st (vp_updL (CS.sa st) p0.toNatClampNeg r1)) (vp_updL (CS.sb st) p0.toNatClampNeg r2)) (fun u4 => (∃ z, w_C_layStrip_46 post z u4 p0 r1 r2 0)) r1 r2))) p0 (1 : Int32))) p0 (0 : Int32)
set_option maxHeartbeats 4000000 in
set_option maxRecDepth 100000 in
theorem t_C_layStrip (l : Launch) (dC : Nat → ClassId) (dI : Nat → Nat → Nat) (h : Nat → Nat) (k : Nat → ClassId) (sz : Nat) (st : CS) (p0 : Int32) {post : CS → Prop} (hw : w_C_layStrip st post p0) : Met l y_C_layStrip (Cond.code y_C_layStrip prog_1_method_26_code 7 none :: cw) ({ frames := 4, cells := 0, slots := 0, locals := 104 } : Room) (va_Pc [.ref (h 0), .int p0] (pRw (dC, dI) (WC h k st) (YC k) sz)) (va_Qv post (fun u t => va_P (dC, dI) vwCl (WC h k u) t.heap ∧ va_D (va_A (WC h k st) sz) (WC h k u)) (va_A (WC h k st) sz)) 0 0 (va_A (WC h k st) sz) := by
  refine Met.ofW (cc := prog_1_method_26_code) (maxL := 7) (ret := none) (by decide) rfl ?_
  intro p e s m args below meth c s₁ B hml hv
  obtain ⟨rfl, hsz, hP, hK, hN, hD0⟩ := hv
  have hx := B.exec
  have hb := B.bytes
  have hr := B.returns
  have hts : ∀ w ∈ cw, w.before _ s = true := fun w h => atoms_spec (ws := (Cond.code y_C_layStrip prog_1_method_26_code 7 none :: cw)) B.pre w (List.mem_cons_of_mem _ h)
  have hown : s.vm.findClass RC = some m.cls := findClass_of_methodNamed B.named
  have hlocks := B.notSynchronized
  have C0 : cxt p s m _ meth c prog_1_method_26_code 7 RC none := ⟨hx, hb, hr, hml, hown, hts, hlocks⟩
  subst hsz
  have hD := hD0.self (sz := s.heap.size)
  generalize hAe : va_A (WC h k st) s.heap.size = A at hD ⊢
  have hA : ∀ q : Nat, s.heap.size ≤ q → A q := fun q h => by rw [← hAe]; exact Or.inr h
  have hS : va_S A s.heap s.heap [] := va_S.rf
  have hl := lv_entry ([.ref (h 0), .int p0]) (n := 7) (Nat.le_of_ble_eq_true rfl)
  rw [lg_entry_eq]
  generalize (lg_sl ([.ref (h 0), .int p0]) ++ List.replicate (7 - (lg_sl ([.ref (h 0), .int p0])).length) Slot.unset).toArray = ls at hl ⊢
  have hl : lv_has ls 7 [(0, .ref (h 0)), (1, .int p0)] := hl
  unfold w_C_layStrip at hw
  refine lv_aload_n hx hb d_C_layStrip_0 rfl (lv_at hl 0 rfl) ?_
  refine va_get (D := (dC, dI)) (ci := 1) (v := .ref (h 4)) (C := RC) (T := TC) (N := 10) hx hb hts i_C hown hK hP 0 rfl rfl 4 (by decide) (hts _ m_109) (fun _ h9 => h9) rfl d_C_layStrip_1 ?_
  refine lv_iload_n hx hb d_C_layStrip_4 rfl (lv_at hl 1 rfl) ?_
  refine lv_iconst (v := 0) hx hb d_C_layStrip_5 (by decide) ?_
  have hPc := hP.sub (ws' := WK (fun i => h (4 + i)) (fun i => k (4 + i)) (CS.cu st)) [4, 5, 6] rfl
  have hKc := hK.sub (tys' := YK (fun i => k (4 + i))) [3, 4] rfl
  refine vp_callSl (va_Run.run (va_runV (As := [.int p0, .int 0]) (rest := []) ⟨hx, hb, hml, hown, hts⟩ (t_K_samplePart l dC dI (fun i => h (4 + i)) (fun i => k (4 + i)) (CS.cu st) p0 (0 : Int32) hw) (cwV 2 hts (gV m_72 m_73 m_74 m_2 (cw_call m_75)) rfl rfl rfl (by decide +kernel) ⟨Nat.le_of_ble_eq_true rfl, Nat.le_of_ble_eq_true rfl⟩) ⟨pRo_bl, va_recv hKc hPc (ci := 0) (q0 := 0) rfl rfl, fun U hU hW => ⟨rfl, pRo_at hPc hKc hN hU hW⟩⟩ rfl rfl hl.1 rfl (lv_room (Nat.le_of_ble_eq_true rfl)) d_C_layStrip_6 ⟨Nat.le_of_ble_eq_true rfl, Nat.le_of_ble_eq_true rfl⟩)) (fun r1 hw => ?_)
  refine lv_lstore_n (lv' := [(2, .long r1), (0, .ref (h 0)), (1, .int p0)]) hx hb d_C_layStrip_9 rfl hl (by decide) rfl (fun ls hl => ?_)
  refine lv_aload_n hx hb d_C_layStrip_10 rfl (lv_at hl 1 rfl) ?_
  refine va_get (D := (dC, dI)) (ci := 1) (v := .ref (h 4)) (C := RC) (T := TC) (N := 10) hx hb hts i_C hown hK hP 0 rfl rfl 4 (by decide) (hts _ m_109) (fun _ h9 => h9) rfl d_C_layStrip_11 ?_
  refine lv_iload_n hx hb d_C_layStrip_14 rfl (lv_at hl 2 rfl) ?_
  refine lv_iconst (v := 1) hx hb d_C_layStrip_15 (by decide) ?_
  have hPc := hP.sub (ws' := WK (fun i => h (4 + i)) (fun i => k (4 + i)) (CS.cu st)) [4, 5, 6] rfl
  have hKc := hK.sub (tys' := YK (fun i => k (4 + i))) [3, 4] rfl
  refine vp_callSl (va_Run.run (va_runV (As := [.int p0, .int 1]) (rest := []) ⟨hx, hb, hml, hown, hts⟩ (t_K_samplePart l dC dI (fun i => h (4 + i)) (fun i => k (4 + i)) (CS.cu st) p0 (1 : Int32) hw) (cwV 2 hts (gV m_72 m_73 m_74 m_2 (cw_call m_75)) rfl rfl rfl (by decide +kernel) ⟨Nat.le_of_ble_eq_true rfl, Nat.le_of_ble_eq_true rfl⟩) ⟨pRo_bl, va_recv hKc hPc (ci := 0) (q0 := 0) rfl rfl, fun U hU hW => ⟨rfl, pRo_at hPc hKc hN hU hW⟩⟩ rfl rfl hl.1 rfl (lv_room (Nat.le_of_ble_eq_true rfl)) d_C_layStrip_16 ⟨Nat.le_of_ble_eq_true rfl, Nat.le_of_ble_eq_true rfl⟩)) (fun r2 hw => ?_)
  refine lv_lstore (lv' := [(4, .long r2), (2, .long r1), (0, .ref (h 0)), (1, .int p0)]) hx hb d_C_layStrip_19 hl (by decide) rfl (fun ls hl => ?_)
  refine lv_aload_n hx hb d_C_layStrip_21 rfl (lv_at hl 2 rfl) ?_
  refine va_get (D := (dC, dI)) (ci := 1) (v := .ref (h 10)) (C := RC) (T := TC) (N := 10) hx hb hts i_C hown hK hP 0 rfl rfl 6 (by decide) (hts _ m_111) (fun _ h9 => h9) rfl d_C_layStrip_22 ?_
  refine lv_iload_n hx hb d_C_layStrip_25 rfl (lv_at hl 3 rfl) ?_
  refine lv_lload_n hx hb d_C_layStrip_26 rfl (lv_at hl 1 rfl) ?_
  obtain ⟨h3, hw⟩ := hw
  refine va_last hx hb hK hP hD hS 10 7 rfl rfl h3 d_C_layStrip_27 (fun H locs hP hD hS => ?_)
  have hP : va_P (dC, dI) vwCl (WC h k (CS.set_sa st (vp_updL (CS.sa st) p0.toNatClampNeg r1))) H := hP
  have hD : va_D A (WC h k (CS.set_sa st (vp_updL (CS.sa st) p0.toNatClampNeg r1))) := hD
  refine lv_aload_n hx hb d_C_layStrip_28 rfl (lv_at hl 2 rfl) ?_
  refine va_get (D := (dC, dI)) (ci := 1) (v := .ref (h 11)) (C := RC) (T := TC) (N := 10) hx hb hts i_C hown hK hP 0 rfl rfl 7 (by decide) (hts _ m_112) (fun _ h9 => h9) rfl d_C_layStrip_29 ?_
  refine lv_iload_n hx hb d_C_layStrip_32 rfl (lv_at hl 3 rfl) ?_
  refine lv_lload hx hb d_C_layStrip_33 (lv_at hl 0 rfl) ?_
  refine va_last hx hb hK hP hD hS 11 8 rfl rfl h3 d_C_layStrip_35 (fun H locs hP hD hS => ?_)
  have hP : va_P (dC, dI) vwCl (WC h k (CS.set_sb (CS.set_sa st (vp_updL (CS.sa st) p0.toNatClampNeg r1)) (vp_updL (CS.sb st) p0.toNatClampNeg r2))) H := hP
  have hD : va_D A (WC h k (CS.set_sb (CS.set_sa st (vp_updL (CS.sa st) p0.toNatClampNeg r1)) (vp_updL (CS.sb st) p0.toNatClampNeg r2))) := hD
  refine lv_aload_n hx hb d_C_layStrip_36 rfl (lv_at hl 2 rfl) ?_
  refine lv_lload_n hx hb d_C_layStrip_37 rfl (lv_at hl 1 rfl) ?_
  refine lv_lload hx hb d_C_layStrip_38 (lv_at hl 0 rfl) ?_
  have hFc := va_freeA hD hS hA
  refine va_callv (va_runV (As := [.long r1, .long r2]) (rest := []) ⟨hx, hb, hml, hown, hts⟩ (t_C_measureHeights l dC dI h k _ (CS.set_sb (CS.set_sa st (vp_updL (CS.sa st) p0.toNatClampNeg r1)) (vp_updL (CS.sb st) p0.toNatClampNeg r2)) r1 r2 hw) (cwV 2 hts (gV m_89 m_91 s_5 m_1 (cw_call m_92)) rfl rfl rfl (by decide +kernel) ⟨Nat.le_of_ble_eq_true rfl, Nat.le_of_ble_eq_true rfl⟩) ⟨pRw_bl, va_recv hK hP (ci := 1) (q0 := 0) rfl rfl, fun U hU hW => ⟨rfl, pRw_at hP hK hN hD hU hW⟩⟩ rfl rfl hl.1 rfl (lv_room (Nat.le_of_ble_eq_true rfl)) d_C_layStrip_40 ⟨Nat.le_of_ble_eq_true rfl, Nat.le_of_ble_eq_true rfl⟩) hS (fun q _ h => hFc q h) hFc (fun u4 t H1 locs ht hvm hw hB hz1 hk1 hS => ?_)
  obtain ⟨hP1, hD1⟩ := hB
  rw [ht] at hP1
  have hP := hP1
  have hD := hD1.weaken (fun _ q _ h => hFc q.1 h)
  generalize H1 = H at hP hS ⊢
  have hP : va_P (dC, dI) vwCl (WC h k u4) H := hP
  have hD : va_D A (WC h k u4) := hD
  refine lv_iconst (v := 0) hx hb d_C_layStrip_43 (by decide) ?_
  refine lv_istore (lv' := [(6, .int 0), (4, .long r2), (2, .long r1), (0, .ref (h 0)), (1, .int p0)]) hx hb d_C_layStrip_44 hl (by decide) rfl (fun ls hl => ?_)
  obtain ⟨n5, hw⟩ := hw
  exact k_C_layStrip_46 C0 hK hN hA n5 u4 p0 r1 r2 0 _ _ hP hD hS ls (lv_sub hl [3, 4, 2, 1, 0] rfl) hw
def w_C_rebuild_18 (post : CS → Prop) : Nat → CS → Int32 → Int32 → Prop
  | 0, _, _, _ => False
  | n + 1, st, v1, v2 => (v1 ≤ v2 → (post st)) ∧ (¬ v1 ≤ v2 → (w_C_layStrip st (fun u5 => (w_C_rebuild_18 post n u5 v1 (v2 + 1))) v2))
set_option maxHeartbeats 4000000 in
set_option maxRecDepth 100000 in
theorem k_C_rebuild_18 {p : Program} {l : Launch} {e : Env} {s : State} {m : MethodId} {args : Array Value} {below : List Frame} {meth : Method} {c : Code} {dC : Nat → ClassId} {dI : Nat → Nat → Nat} {h : Nat → Nat} {k : Nat → ClassId} {A : Nat → Prop} {post : CS → Prop} (C0 : cxt p s m args meth c prog_1_method_23_code 3 RC none) (hK : va_K (dC, dI) vwCl (YC k) s) (hN : va_Nw nestW s) (hA : ∀ q, s.heap.size ≤ q → A q) : ∀ (n : Nat), ∀ (st : CS) (v1 : Int32) (v2 : Int32) (H : Heap) (locs : List Loc), va_P (dC, dI) vwCl (WC h k st) H → va_D A (WC h k st) → va_S A s.heap H locs → ∀ ls, lv_has ls 3 [(0, .ref (h 0)), (1, .int v1), (2, .int v2)] → w_C_rebuild_18 post n st v1 v2 → W p l e ({ frames := 5, cells := 0, slots := 0, locals := 130 } : Room) s m args below meth c H locs 0 0 (MQ below (va_Qv post (fun u t => va_P (dC, dI) vwCl (WC h k u) t.heap ∧ va_D A (WC h k u)) A) args s 0 0 A) (F0 m 18 ls []) := by
  obtain ⟨hx, hb, hr, hml, hown, hts, hlocks⟩ := id C0
  intro n
  induction n with
  | zero =>
    intro st v1 v2 H locs hP hD hS ls hl hw
    exact False.elim hw
  | succ n ih =>
    intro st v1 v2 H locs hP hD hS ls hl hw
    rw [w_C_rebuild_18] at hw
    refine lv_iload_n hx hb d_C_rebuild_18 rfl (lv_at hl 2 rfl) ?_
    refine lv_iload_n hx hb d_C_rebuild_19 rfl (lv_at hl 1 rfl) ?_
    refine lv_icmp_ge (tgt := 34) hx hb d_C_rebuild_20 (by decide) (fun c4 => ?_) (fun c4 => ?_)
    · skip
      have hw := hw.1 c4
      exact W.vret hx hb hr (fun t ht hW => ⟨⟨st, rfl, hw, by rw [ht]; exact hP, hD⟩, hS.F ht⟩) hS.2.2 d_C_rebuild_34
    · skip
      have hw := hw.2 c4
      refine lv_aload_n hx hb d_C_rebuild_23 rfl (lv_at hl 0 rfl) ?_
      refine lv_iload_n hx hb d_C_rebuild_24 rfl (lv_at hl 2 rfl) ?_
      have hFc := va_freeA hD hS hA
      refine va_callv (va_runV (As := [.int v2]) (rest := []) ⟨hx, hb, hml, hown, hts⟩ (t_C_layStrip l dC dI h k _ st v2 hw) (cwV 1 hts (gV m_68 m_70 s_4 m_1 (cw_call m_71)) rfl rfl rfl (by decide +kernel) ⟨Nat.le_of_ble_eq_true rfl, Nat.le_of_ble_eq_true rfl⟩) ⟨pRw_bl, va_recv hK hP (ci := 1) (q0 := 0) rfl rfl, fun U hU hW => ⟨rfl, pRw_at hP hK hN hD hU hW⟩⟩ rfl rfl hl.1 rfl (lv_room (Nat.le_of_ble_eq_true rfl)) d_C_rebuild_25 ⟨Nat.le_of_ble_eq_true rfl, Nat.le_of_ble_eq_true rfl⟩) hS (fun q _ h => hFc q h) hFc (fun u5 t H1 locs ht hvm hw hB hz1 hk1 hS => ?_)
      obtain ⟨hP1, hD1⟩ := hB
      rw [ht] at hP1
      have hP := hP1
      have hD := hD1.weaken (fun _ q _ h => hFc q.1 h)
      generalize H1 = H at hP hS ⊢
      have hP : va_P (dC, dI) vwCl (WC h k u5) H := hP
      have hD : va_D A (WC h k u5) := hD
      refine lv_iinc (v := (v2 + 1)) (lv' := [(2, .int (v2 + 1)), (0, .ref (h 0)), (1, .int v1)]) hx hb d_C_rebuild_28 hl (k := 2) rfl rfl (by decide) rfl (fun ls hl => ?_)
      refine lv_goto (tgt := 18) hx hb d_C_rebuild_31 (by decide) ?_
      exact ih u5 v1 (v2 + 1) _ _ hP hD hS ls (lv_sub hl [1, 2, 0] rfl) hw
def w_C_rebuild (st : CS) (post : CS → Prop) : Prop := w_C_gatherCuts st (fun u1 => (w_C_stripCount u1 (fun r2 => (∃ z, w_C_rebuild_18 post z (CS.set_fc u1 (upd (CS.fc u1) (0 : Int32).toNatClampNeg 0)) r2 0)) )) 
set_option maxHeartbeats 4000000 in
set_option maxRecDepth 100000 in
theorem t_C_rebuild (l : Launch) (dC : Nat → ClassId) (dI : Nat → Nat → Nat) (h : Nat → Nat) (k : Nat → ClassId) (sz : Nat) (st : CS) {post : CS → Prop} (hw : w_C_rebuild st post) : Met l y_C_rebuild (Cond.code y_C_rebuild prog_1_method_23_code 3 none :: cw) ({ frames := 5, cells := 0, slots := 0, locals := 130 } : Room) (va_Pc [.ref (h 0)] (pRw (dC, dI) (WC h k st) (YC k) sz)) (va_Qv post (fun u t => va_P (dC, dI) vwCl (WC h k u) t.heap ∧ va_D (va_A (WC h k st) sz) (WC h k u)) (va_A (WC h k st) sz)) 0 0 (va_A (WC h k st) sz) := by
  refine Met.ofW (cc := prog_1_method_23_code) (maxL := 3) (ret := none) (by decide) rfl ?_
  intro p e s m args below meth c s₁ B hml hv
  obtain ⟨rfl, hsz, hP, hK, hN, hD0⟩ := hv
  have hx := B.exec
  have hb := B.bytes
  have hr := B.returns
  have hts : ∀ w ∈ cw, w.before _ s = true := fun w h => atoms_spec (ws := (Cond.code y_C_rebuild prog_1_method_23_code 3 none :: cw)) B.pre w (List.mem_cons_of_mem _ h)
  have hown : s.vm.findClass RC = some m.cls := findClass_of_methodNamed B.named
  have hlocks := B.notSynchronized
  have C0 : cxt p s m _ meth c prog_1_method_23_code 3 RC none := ⟨hx, hb, hr, hml, hown, hts, hlocks⟩
  subst hsz
  have hD := hD0.self (sz := s.heap.size)
  generalize hAe : va_A (WC h k st) s.heap.size = A at hD ⊢
  have hA : ∀ q : Nat, s.heap.size ≤ q → A q := fun q h => by rw [← hAe]; exact Or.inr h
  have hS : va_S A s.heap s.heap [] := va_S.rf
  have hl := lv_entry ([.ref (h 0)]) (n := 3) (Nat.le_of_ble_eq_true rfl)
  rw [lg_entry_eq]
  generalize (lg_sl ([.ref (h 0)]) ++ List.replicate (3 - (lg_sl ([.ref (h 0)])).length) Slot.unset).toArray = ls at hl ⊢
  have hl : lv_has ls 3 [(0, .ref (h 0))] := hl
  unfold w_C_rebuild at hw
  refine lv_aload_n hx hb d_C_rebuild_0 rfl (lv_at hl 0 rfl) ?_
  have hFc := va_freeA hD hS hA
  refine va_callv (va_runV (As := []) (rest := []) ⟨hx, hb, hml, hown, hts⟩ (t_C_gatherCuts l dC dI h k _ st  hw) (cwV 0 hts (gV m_45 m_47 s_1 m_1 (cw_call m_48)) rfl rfl rfl (by decide +kernel) ⟨Nat.le_of_ble_eq_true rfl, Nat.le_of_ble_eq_true rfl⟩) ⟨pRw_bl, va_recv hK hP (ci := 1) (q0 := 0) rfl rfl, fun U hU hW => ⟨rfl, pRw_at hP hK hN hD hU hW⟩⟩ rfl rfl hl.1 rfl (lv_room (Nat.le_of_ble_eq_true rfl)) d_C_rebuild_1 ⟨Nat.le_of_ble_eq_true rfl, Nat.le_of_ble_eq_true rfl⟩) hS (fun q _ h => hFc q h) hFc (fun u1 t H1 locs ht hvm hw hB hz1 hk1 hS => ?_)
  obtain ⟨hP1, hD1⟩ := hB
  rw [ht] at hP1
  have hP := hP1
  have hD := hD1.weaken (fun _ q _ h => hFc q.1 h)
  generalize H1 = H at hP hS ⊢
  have hP : va_P (dC, dI) vwCl (WC h k u1) H := hP
  have hD : va_D A (WC h k u1) := hD
  refine lv_aload_n hx hb d_C_rebuild_4 rfl (lv_at hl 0 rfl) ?_
  refine vp_callSi (va_Run.run (va_runV (As := []) (rest := []) ⟨hx, hb, hml, hown, hts⟩ (t_C_stripCount l dC dI h k u1  hw) (cwV 0 hts (gV m_64 m_66 s_3 m_1 (cw_call m_67)) rfl rfl rfl (by decide +kernel) ⟨Nat.le_of_ble_eq_true rfl, Nat.le_of_ble_eq_true rfl⟩) ⟨pRo_bl, va_recv hK hP (ci := 1) (q0 := 0) rfl rfl, fun U hU hW => ⟨rfl, pRo_at hP hK hN hU hW⟩⟩ rfl rfl hl.1 rfl (lv_room (Nat.le_of_ble_eq_true rfl)) d_C_rebuild_5 ⟨Nat.le_of_ble_eq_true rfl, Nat.le_of_ble_eq_true rfl⟩)) (fun r2 hw => ?_)
  refine lv_istore_n (lv' := [(1, .int r2), (0, .ref (h 0))]) hx hb d_C_rebuild_8 rfl hl (by decide) rfl (fun ls hl => ?_)
  refine lv_aload_n hx hb d_C_rebuild_9 rfl (lv_at hl 1 rfl) ?_
  refine va_get (D := (dC, dI)) (ci := 1) (v := .ref (h 13)) (C := RC) (T := TC) (N := 10) hx hb hts i_C hown hK hP 0 rfl rfl 9 (by decide) (hts _ m_114) (fun _ h9 => h9) rfl d_C_rebuild_10 ?_
  refine lv_iconst (v := 0) hx hb d_C_rebuild_13 (by decide) ?_
  refine lv_iconst (v := 0) hx hb d_C_rebuild_14 (by decide) ?_
  refine va_iast hx hb hK hP hD hS 13 10 rfl rfl (by unfold vp_in; decide) d_C_rebuild_15 (fun H locs hP hD hS => ?_)
  have hP : va_P (dC, dI) vwCl (WC h k (CS.set_fc u1 (upd (CS.fc u1) (0 : Int32).toNatClampNeg 0))) H := hP
  have hD : va_D A (WC h k (CS.set_fc u1 (upd (CS.fc u1) (0 : Int32).toNatClampNeg 0))) := hD
  refine lv_iconst (v := 0) hx hb d_C_rebuild_16 (by decide) ?_
  refine lv_istore_n (lv' := [(2, .int 0), (1, .int r2), (0, .ref (h 0))]) hx hb d_C_rebuild_17 rfl hl (by decide) rfl (fun ls hl => ?_)
  obtain ⟨n3, hw⟩ := hw
  exact k_C_rebuild_18 C0 hK hN hA n3 (CS.set_fc u1 (upd (CS.fc u1) (0 : Int32).toNatClampNeg 0)) r2 0 _ _ hP hD hS ls (lv_sub hl [2, 1, 0] rfl) hw
