/-! the law from its entry; the claim -/
/-- the same places, but for 45 -/
def at45 {T : Type} (h : Nat → T) (q : T) : Nat → T := fun i => if i = 45 then q else h i
theorem wc_45 (h : Nat → Nat) (k : Nat → ClassId) (q : Nat) (kq : ClassId) (u : CS) : WC (at45 h q) (at45 k kq) u = WC h k u := by
  have e1 : WCr (at45 h q) (at45 k kq) (CS.pl u) = WCr h k (CS.pl u) := by
    unfold WCr
    apply List.map_congr_left
    intro i hi
    have hi' := List.mem_range.mp hi
    have e : at45 h q (i + 14) = h (i + 14) := if_neg (by omega)
    show (at45 h q (i + 14), Sum.inl (at45 k kq 14, 6, Sum.inl (CS.pl u i))) = _
    rw [e]
    rfl
  have e2 : (fun i => if i < 31 then some (at45 h q (i + 14)) else none) = (fun i => if i < 31 then some (h (i + 14)) else none) := by
    funext i
    by_cases hi : i < 31
    · rw [if_pos hi, if_pos hi]
      have e : at45 h q (i + 14) = h (i + 14) := if_neg (by omega)
      rw [e]
    · rw [if_neg hi, if_neg hi]
  unfold WC WC2
  rw [e1, e2]
  rfl
def mkM (q0 q1 q2 q3 q4 q5 : Nat) : Nat → Nat
  | 0 => q0 | 1 => q1 | 2 => q2 | 3 => q3 | 4 => q4 | _ => q5
def mkN (k1 k2 k3 k4 k5 : ClassId) : Nat → ClassId
  | 1 => k1 | 2 => k2 | 3 => k3 | 4 => k4 | _ => k5
theorem va_joinR {A0 : Nat → Prop} {D : va_G} {cl : List vw_C} {X wc w1 : va_W} {H H1 : Heap} (hP : va_P D cl (X ++ wc) H) (hD : va_D A0 (X ++ wc)) (hk : ∀ q : Nat, q < H.size → ¬ va_A wc H.size q → H1[q]? = H[q]?) (hF : ∀ q, va_A wc H.size q → A0 q) (hP1 : va_P D cl w1 H1) (hD1 : va_D (va_A wc H.size) w1) : va_P D cl (X ++ w1) H1 ∧ va_D A0 (X ++ w1) := by
  have apart : ∀ (i : Nat) (q : Nat × va_E), X[i]? = some q → ¬ va_A wc H.size q.1 := by
    intro i q hq hz
    have hil : i < X.length := (List.getElem?_eq_some_iff.mp hq).1
    have h1 : (X ++ wc)[i]? = some q := by rw [List.getElem?_append_left hil]; exact hq
    rcases hz with ⟨j, e, hj⟩ | hz
    · have h2 : (X ++ wc)[X.length + j]? = some (q.1, e) := by
        rw [List.getElem?_append_right (by omega), Nat.add_sub_cancel_left]
        exact hj
      have := hD.1 i (X.length + j) q (q.1, e) h1 h2 rfl
      omega
    · have := (hP i q h1).lt
      omega
  have keep : ∀ (i : Nat) (q : Nat × va_E), X[i]? = some q → va_at D cl q H1 := by
    intro i q hq
    have hil : i < X.length := (List.getElem?_eq_some_iff.mp hq).1
    have h1 : (X ++ wc)[i]? = some q := by rw [List.getElem?_append_left hil]; exact hq
    exact (hP i q h1).kept (hk q.1 (hP i q h1).lt (apart i q hq))
  have split : ∀ (i : Nat) (q : Nat × va_E), (X ++ w1)[i]? = some q → (i < X.length ∧ X[i]? = some q) ∨ (X.length ≤ i ∧ w1[i - X.length]? = some q) := by
    intro i q hq
    by_cases h : i < X.length
    · rw [List.getElem?_append_left h] at hq; exact Or.inl ⟨h, hq⟩
    · rw [List.getElem?_append_right (by omega)] at hq; exact Or.inr ⟨by omega, hq⟩
  refine ⟨fun i q hq => ?_, fun i j x y hx hy e => ?_, fun i q hq => ?_⟩
  · rcases split i q hq with ⟨-, h⟩ | ⟨-, h⟩
    · exact keep i q h
    · exact hP1 _ q h
  · rcases split i x hx with ⟨a1, h1⟩ | ⟨a1, h1⟩ <;> rcases split j y hy with ⟨b1, h2⟩ | ⟨b1, h2⟩
    · exact hD.1 i j x y (by rw [List.getElem?_append_left a1]; exact h1) (by rw [List.getElem?_append_left b1]; exact h2) e
    · exact absurd (by rw [e]; exact hD1.2 _ y h2) (apart i x h1)
    · exact absurd (by rw [← e]; exact hD1.2 _ x h1) (apart j y h2)
    · have := hD1.1 _ _ x y h1 h2 e
      omega
  · rcases split i q hq with ⟨a1, h⟩ | ⟨-, h⟩
    · exact hD.2 i q (by rw [List.getElem?_append_left a1]; exact h)
    · exact hF _ (hD1.2 _ q h)
set_option maxHeartbeats 8000000 in
set_option maxRecDepth 100000 in
/-- THE LAW, from its entry, where no stack trace is filled in (the pinned flags say so: the rows that throw need it) -/
theorem whole_start {p : Program} {e : Env} {s : State} {m : MethodId} {below : List Frame} {meth : Method} {c : Code} (l : Launch) (hst : l.stackTraces = false) {b L : Nat} {xs : Nat → Int32} (hL : L ≤ 2560) (C0 : lw_At p s m meth c b L xs) : W p l e room_1 s m #[Value.ref b] below meth c s.heap [] 0 0 (lw_Z below #[Value.ref b] s) (entryFrame m ([Value.ref b] : List Value).toArray 8) := by
  obtain ⟨hx, hb, hr, hml, hown0, hts0, hX, hbl, hlocks, hgv⟩ := id C0
  have hown : s.vm.findClass RL = some m.cls := hown0
  have hts : ∀ w ∈ cw, w.before #[Value.ref b] s = true := fun w hw => hts0 w (cw_in hw)
  have hA : ∀ q : Nat, s.heap.size ≤ q → (fun q : Nat => s.heap.size ≤ q) q := fun _ h => h
  have hbA : ¬ (fun q : Nat => s.heap.size ≤ q) b := Nat.not_le.mpr hbl
  obtain ⟨c0, iS0, hKn0⟩ := u_known (C := RK) (T := TK) (N := 3) (n := 3) hts i_K (hts (.instantiable RK 3) m_21)
  obtain ⟨c1, iS1, hKn1⟩ := u_known (C := RC) (T := TC) (N := 10) (n := 10) hts i_C (hts (.instantiable RC 10) m_13)
  obtain ⟨c2, iS2, hKn2⟩ := u_known (C := RM) (T := TM) (N := 15) (n := 15) hts i_M (hts (.instantiable RM 15) m_371)
  obtain ⟨dC, dI, hKc⟩ : ∃ (dC : Nat → ClassId) (dI : Nat → Nat → Nat), ∀ (k : Nat) (q : vw_C), vwCl[k]? = some q → u_Kn s q.1 q.2.1 q.2.2 (dC k) (dI k) := by
    refine ⟨fun k => if k = 0 then c0 else if k = 1 then c1 else c2, fun k => if k = 0 then iS0 else if k = 1 then iS1 else iS2, ?_⟩
    intro k q hq
    match k, hq with
    | 0, hq => cases hq; exact hKn0
    | 1, hq => cases hq; exact hKn1
    | 2, hq => cases hq; exact hKn2
    | k + 3, hq => simp [vwCl] at hq
  obtain ⟨hF, hO⟩ := lw_F C0 ⟨_, hKn1.2.1⟩
  have hN := hF.1
  have hS : va_S (fun q : Nat => s.heap.size ≤ q) s.heap s.heap [] := va_S.rf
  have hK : va_K (dC, dI) vwCl [] s := ⟨hKc, fun k q h => by simp at h⟩
  have hP : va_P (dC, dI) vwCl [] s.heap := fun k q h => by simp at h
  have hD : va_D (fun q : Nat => s.heap.size ≤ q) [] := ⟨fun i j p q h => by simp at h, fun k q h => by simp at h⟩
  have hl := lv_entry ([.ref b]) (n := 8) (Nat.le_of_ble_eq_true rfl)
  rw [lg_entry_eq]
  generalize (lg_sl ([.ref b]) ++ List.replicate (8 - (lg_sl ([.ref b])).length) Slot.unset).toArray = ls at hl ⊢
  have hl : lv_has ls 8 [(0, .ref b)] := hl
  refine va_new (ci := 1) (fs := [.null, .null, .null, .int 0, .null, .null, .null, .null, .null, .null]) (C := RC) (T := TC) (N := 10) hx hb hts i_C tyC tyC_ok hown (hts _ m_12) (hts _ m_13) (hts _ m_1) hK hP hD hS hA rfl (fun j hj => by match j, hj with | 0, _ => rfl | 1, _ => rfl | 2, _ => rfl | 3, _ => rfl | 4, _ => rfl | 5, _ => rfl | 6, _ => rfl | 7, _ => rfl | 8, _ => rfl | 9, _ => rfl | n + 10, hj => exact absurd hj (by omega)) (Nat.le_of_ble_eq_true rfl) (Nat.le_of_ble_eq_true rfl) d_L_law_0 (fun q0 H hP hD hS => ?_)
  have hP : va_P (dC, dI) vwCl [(q0, .inr (1, [.null, .null, .null, .int 0, .null, .null, .null, .null, .null, .null]))] H := hP
  have hD : va_D (fun q : Nat => s.heap.size ≤ q) [(q0, .inr (1, [.null, .null, .null, .int 0, .null, .null, .null, .null, .null, .null]))] := hD
  refine W.widen (k := 1) (n := 10) (by omega) (by omega) ?_
  refine lv_dup hx hb d_L_law_3 rfl ?_
  have hFc := va_freeA hD hS hA
  refine va_callv (va_runI (As := []) (rest := [.ref q0]) ⟨hx, hb, hml, hown, hts⟩ (t_C_init l dC dI q0 H.size) (cwI 0 hts (cw_call m_16) rfl rfl rfl (hts _ m_1) (hts _ m_14) (hts _ m_15) rfl (by decide +kernel) ⟨Nat.le_of_ble_eq_true rfl, Nat.le_of_ble_eq_true rfl⟩) ⟨pRi_bl, fun U hU hW => ⟨rfl, pRw_at hP hK hN hD hU hW, va_AOA.moved hW.alike hO⟩⟩ rfl rfl hl.1 rfl (lv_room (Nat.le_of_ble_eq_true rfl)) d_L_law_4 ⟨Nat.le_of_ble_eq_true rfl, Nat.le_of_ble_eq_true rfl⟩) hS (fun q _ h => hFc q h) hFc (fun u t H1 locs ht hvm hw hB hz1 hk1 hS => ?_)
  obtain ⟨h, k, e0, hP1, hK1, hD1⟩ := hB
  rw [ht] at hP1
  have hKw := va_K.moved hvm.symm hK1
  obtain ⟨hPw, hDw⟩ := va_joinR (X := []) (wc := [(q0, .inr (1, [.null, .null, .null, .int 0, .null, .null, .null, .null, .null, .null]))]) hP hD hk1 hFc hP1 hD1
  have hPw : va_P (dC, dI) vwCl (WC h k u) H1 := hPw
  have hDw : va_D (fun q : Nat => s.heap.size ≤ q) (WC h k u) := hDw
  clear hP hD hP1 hD1 hK1 hFc hk1
  subst e0
  refine W.widen (k := 45) (n := 405) (by omega) (by omega) ?_
  refine lv_astore_n (lv' := [(1, .ref (h 0)), (0, .ref b)]) hx hb d_L_law_7 rfl hl (by decide) rfl (fun ls hl => ?_)
  refine va_new (ci := 2) (fs := [.int 0, .int 0, .null, .int 0, .null, .null, .int 0, .null, .null, .long 0, .long 0, .long 0, .long 0, .int 0, .int 0]) (C := RM) (T := TM) (N := 15) hx hb hts i_M tyM tyM_ok hown (hts _ m_370) (hts _ m_371) (hts _ m_5) hKw hPw hDw hS hA rfl (fun j hj => by match j, hj with | 0, _ => rfl | 1, _ => rfl | 2, _ => rfl | 3, _ => rfl | 4, _ => rfl | 5, _ => rfl | 6, _ => rfl | 7, _ => rfl | 8, _ => rfl | 9, _ => rfl | 10, _ => rfl | 11, _ => rfl | 12, _ => rfl | 13, _ => rfl | 14, _ => rfl | n + 15, hj => exact absurd hj (by omega)) (Nat.le_of_ble_eq_true rfl) (Nat.le_of_ble_eq_true rfl) d_L_law_8 (fun qm H hP hD hS => ?_)
  refine W.widen (k := 46) (n := 420) (by omega) (by omega) ?_
  refine lv_dup hx hb d_L_law_11 rfl ?_
  have hPc := va_P_r hP
  have hDc := va_D_r hD
  have hKc := hKw.sub (tys' := []) [] rfl
  have hFc := va_freeA hDc hS hA
  refine va_callv (va_runI (As := []) (rest := [.ref qm]) ⟨hx, hb, hml, hown, hts⟩ (t_M_init l dC dI qm H.size) (cwI 0 hts (cw_call m_374) rfl rfl rfl (hts _ m_5) (hts _ m_372) (hts _ m_373) rfl (by decide +kernel) ⟨Nat.le_of_ble_eq_true rfl, Nat.le_of_ble_eq_true rfl⟩) ⟨pRw_bl, fun U hU hW => ⟨rfl, pRw_at hPc hKc hN hDc hU hW⟩⟩ rfl rfl hl.1 rfl (lv_room (Nat.le_of_ble_eq_true rfl)) d_L_law_12 ⟨Nat.le_of_ble_eq_true rfl, Nat.le_of_ble_eq_true rfl⟩) hS (fun q _ h => hFc q h) hFc (fun u2 t2 H2 locs ht2 hvm2 hw2 hB hz1 hk1 hS => ?_)
  obtain ⟨q1, q2, q3, q4, q5, k1, k2, k3, k4, k5, hP1, hK1, hD1⟩ := hB
  rw [ht2] at hP1
  have hK1 := va_K.moved hvm2.symm hK1
  obtain ⟨hP, hD⟩ := va_joinR (X := WC h k u) (wc := [(qm, .inr (2, [.int 0, .int 0, .null, .int 0, .null, .null, .int 0, .null, .null, .long 0, .long 0, .long 0, .long 0, .int 0, .int 0]))]) hP hD hk1 hFc hP1 hD1
  have hK := (hKw.sub (tys' := YC k) [0, 1, 2, 3, 4, 5, 6, 7, 8, 9, 10, 11] rfl).app hK1
  refine W.widen (k := 51) (n := 498) (by omega) (by omega) ?_
  refine lv_astore_n (lv' := [(2, .ref qm), (1, .ref (h 0)), (0, .ref b)]) hx hb d_L_law_15 rfl hl (by decide) rfl (fun ls hl => ?_)
  refine lv_iconst (v := 1) hx hb d_L_law_16 (by decide) ?_
  refine va_newa (atype := .long) (ty := .long) (N' := 1) (a0 := (1, .inr (.inl (fun _ => 0)))) hx hb (hts _ m_38) rfl hK hP hD hS hA (fun _ => rfl) (by decide) (by decide) (by decide) (Nat.le_of_ble_eq_true rfl) (Nat.le_of_ble_eq_true rfl) d_L_law_17 (fun qo ko H hK hP hD hS => ?_)
  have hP := va_P.swap (a := []) (b := WC h k u ++ [(qm, .inr (2, [.int 0, .int 0, .ref q1, .int 0, .ref q2, .ref q3, .int 0, .ref q4, .ref q5, .long 0, .long 0, .long 0, .long 0, .int 0, .int 0])), (q1, .inl (k1, 18, .inl (fun _ => 0))), (q2, .inl (k2, 24, .inr (.inl (fun _ => 0)))), (q3, .inl (k3, 24, .inr (.inl (fun _ => 0)))), (q4, .inl (k4, 6, .inr (.inl (fun _ => 0)))), (q5, .inl (k5, 6, .inr (.inl (fun _ => 0))))]) (c := [(qo, .inl (ko, 1, .inr (.inl (fun _ => 0))))]) hP
  have hD := va_D.swap (a := []) (b := WC h k u ++ [(qm, .inr (2, [.int 0, .int 0, .ref q1, .int 0, .ref q2, .ref q3, .int 0, .ref q4, .ref q5, .long 0, .long 0, .long 0, .long 0, .int 0, .int 0])), (q1, .inl (k1, 18, .inl (fun _ => 0))), (q2, .inl (k2, 24, .inr (.inl (fun _ => 0)))), (q3, .inl (k3, 24, .inr (.inl (fun _ => 0)))), (q4, .inl (k4, 6, .inr (.inl (fun _ => 0)))), (q5, .inl (k5, 6, .inr (.inl (fun _ => 0))))]) (c := [(qo, .inl (ko, 1, .inr (.inl (fun _ => 0))))]) hD
  refine W.widen (k := 52) (n := 499) (by omega) (by omega) ?_
  refine lv_astore_n (lv' := [(3, .ref qo), (2, .ref qm), (1, .ref (h 0)), (0, .ref b)]) hx hb d_L_law_19 rfl hl (by decide) rfl (fun ls hl => ?_)
  refine lv_iconst (v := 0) hx hb d_L_law_20 (by decide) ?_
  refine lv_istore (lv' := [(4, .int 0), (3, .ref qo), (2, .ref qm), (1, .ref (h 0)), (0, .ref b)]) hx hb d_L_law_21 hl (by decide) rfl (fun ls hl => ?_)
  have eW := wc_45 h k qo ko u
  have hP : va_P (dC, dI) vwCl (WL (at45 h qo) (at45 k ko) (u, fun _ => 0) ++ WM (mkM qm q1 q2 q3 q4 q5) (mkN k1 k2 k3 k4 k5) ms0) H := by
    unfold WL
    rw [show QS.x (u, fun _ => 0) = u from rfl, eW]
    exact hP
  have hD : va_D (fun q : Nat => s.heap.size ≤ q) (WL (at45 h qo) (at45 k ko) (u, fun _ => 0) ++ WM (mkM qm q1 q2 q3 q4 q5) (mkN k1 k2 k3 k4 k5) ms0) := by
    unfold WL
    rw [show QS.x (u, fun _ => 0) = u from rfl, eW]
    exact hD
  have hK : va_K (dC, dI) vwCl (YL (at45 k ko) ++ YM (mkN k1 k2 k3 k4 k5)) s := hK.sub [17, 0, 1, 2, 3, 4, 5, 6, 7, 8, 9, 10, 11, 12, 13, 14, 15, 16] rfl
  exact law_loop hst hL C0 hF hK 513 0 (by omega) (by omega) (u, fun _ => 0) ms0 H _ ls (b_start hw) hP hD hS (lv_sub hl [4, 3, 2, 1, 0] rfl)
