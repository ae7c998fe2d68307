/-! what stands at the law's entry; the loop -/
theorem tb {w : Cond} (i : Nat) (h : tables_1[i]? = some w) : w ∈ lw_tbl := List.mem_append_right _ (List.mem_of_getElem? h)
theorem lw_F {p : Program} {s : State} {m : MethodId} {meth : Method} {c : Code} {b L : Nat} {xs : Nat → Int32} (C0 : lw_At p s m meth c b L xs) (hRC : ∃ q, s.vm.findClass RC = some q) : lwF s ∧ va_AOA .int s := by
  obtain ⟨-, -, -, -, -, hts, -, -, -, hgv⟩ := C0
  obtain ⟨q, hq⟩ := hRC
  have hf := flat_of_before _ hgv
  have hA : ∀ a : Nat, a < s.heap.size → ¬ (fun q : Nat => s.heap.size ≤ q) a := fun a h => Nat.not_le.mpr h
  refine ⟨⟨va_Nw.of rfl (hts nestW (tb 29 (by decide +kernel))), ?_, ?_, ⟨vx_Zqof (hts _ (tb 209 (by decide +kernel))) (hts (.initialized Bundle.tN) (tb 6 (by decide +kernel))) (hf _ (by decide +kernel)) hA, vx_Zqof (hts _ (tb 211 (by decide +kernel))) (hts (.initialized Bundle.tN) (tb 6 (by decide +kernel))) (hf _ (by decide +kernel)) hA⟩, va_Nc.of (hf _ (by decide +kernel)), va_Nc.of (hf _ (by decide +kernel))⟩, hts (.arrayOver (.array .int)) (tb 40 (by decide +kernel))⟩
  · intro w hw
    have hm : w ∈ lw_tbl := by
      simp only [ngW, List.mem_cons, List.not_mem_nil, or_false] at hw
      rcases hw with rfl | rfl | rfl | rfl | rfl | rfl
      · exact tb 184 (by decide +kernel)
      · exact tb 253 (by decide +kernel)
      · exact tb 281 (by decide +kernel)
      · exact tb 186 (by decide +kernel)
      · exact tb 188 (by decide +kernel)
      · exact tb 190 (by decide +kernel)
    exact va_Nw.of (ng_ot w hw) (hts w hm)
  · intro z hz
    have hm : Cond.stringRef RC z.1 z.2 ∈ lw_tbl := by
      simp only [strs, List.mem_cons, List.not_mem_nil, or_false] at hz
      rcases hz with rfl | rfl | rfl | rfl | rfl | rfl | rfl | rfl | rfl | rfl | rfl | rfl
      · exact tb 223 (by decide +kernel)
      · exact tb 250 (by decide +kernel)
      · exact tb 260 (by decide +kernel)
      · exact tb 288 (by decide +kernel)
      · exact tb 302 (by decide +kernel)
      · exact tb 306 (by decide +kernel)
      · exact tb 314 (by decide +kernel)
      · exact tb 326 (by decide +kernel)
      · exact tb 331 (by decide +kernel)
      · exact tb 339 (by decide +kernel)
      · exact tb 357 (by decide +kernel)
      · exact tb 358 (by decide +kernel)
    obtain ⟨_, _, _, a, -, -, -, -, -, he⟩ := Cond.stringRef_spec hq (hts _ hm)
    exact ⟨a, vk_R.of (hts _ hm) he⟩
set_option maxHeartbeats 4000000 in
set_option maxRecDepth 100000 in
theorem law_loop {p : Program} {l : Launch} {e : Env} {s : State} {m : MethodId} {below : List Frame} {meth : Method} {c : Code} {b L : Nat} {xs : Nat → Int32} (hst : l.stackTraces = false) (hL : L ≤ 2560) (C0 : lw_At p s m meth c b L xs) {dC : Nat → ClassId} {dI : Nat → Nat → Nat} {h h' : Nat → Nat} {k k' : Nat → ClassId} (hF : lwF s) (hK : va_K (dC, dI) vwCl (YL k ++ YM k') s) : ∀ (n j : Nat), L < 5 * (j + n) + 5 → j ≤ 512 → ∀ (st : QS) (ms : MS) (H : Heap) (locs : List Loc) (ls : Array Slot), bInv st ms → va_P (dC, dI) vwCl (WL h k st ++ WM h' k' ms) H → va_D (fun q : Nat => s.heap.size ≤ q) (WL h k st ++ WM h' k' ms) → va_S (fun q : Nat => s.heap.size ≤ q) s.heap H locs → lv_has ls 8 [(0, .ref b), (1, .ref (h 0)), (2, .ref (h' 0)), (3, .ref (h 45)), (4, .int (nI (5 * j)))] → W p l e room_1 s m #[Value.ref b] below meth c H locs (52 + j) (499 + 6 * j) (lw_Z below #[Value.ref b] s) (F0 m 23 ls []) := by
  obtain ⟨hx, hb, hr, hml, hown, hts, hX, hbl, hlocks, -⟩ := id C0
  have hbA : ¬ (fun q : Nat => s.heap.size ≤ q) b := Nat.not_le.mpr hbl
  intro n
  induction n with
  | zero =>
    intro j hj hj2 st ms H locs ls hI hP hD hS hl
    refine lv_iload hx hb d_L_law_23 (lv_at hl 4 rfl) ?_
    refine lv_aload_n hx hb d_L_law_25 rfl (lv_at hl 0 rfl) ?_
    refine va_slen hx hb hX hbl hbA hS d_L_law_26 ?_
    refine lv_iconst (v := 5) hx hb d_L_law_27 (by decide) ?_
    refine lv_isub hx hb d_L_law_28 ?_
    have hc : (nI L - 5 < nI (5 * j)) ↔ (L : Int) - 5 < 5 * j := by
      rw [← jI_nI L, show (5 : Int32) = jI 5 from rfl, jI_sub, ← jI_nI, jI_lt (by omega) (by omega)]
      omega
    refine lv_icmp_gt (tgt := 795) hx hb d_L_law_29 (by decide) (fun c1 => ?_) (fun c1 => absurd (hc.mpr (by omega)) c1)
    refine lv_iconst (v := 1) hx hb d_L_law_795 (by decide) ?_
    refine va_forget (fun q hq => hS.2.2 q hq) ?_
    refine W.widen (k := 643214) (n := 7166462) (by omega) (by omega) ?_
    exact lw_ret hx hb hr hlocks d_L_law_796
  | succ n ih =>
    intro j hj hj2 st ms H locs ls hI hP hD hS hl
    refine lv_iload hx hb d_L_law_23 (lv_at hl 4 rfl) ?_
    refine lv_aload_n hx hb d_L_law_25 rfl (lv_at hl 0 rfl) ?_
    refine va_slen hx hb hX hbl hbA hS d_L_law_26 ?_
    refine lv_iconst (v := 5) hx hb d_L_law_27 (by decide) ?_
    refine lv_isub hx hb d_L_law_28 ?_
    have hc : (nI L - 5 < nI (5 * j)) ↔ (L : Int) - 5 < 5 * j := by
      rw [← jI_nI L, show (5 : Int32) = jI 5 from rfl, jI_sub, ← jI_nI, jI_lt (by omega) (by omega)]
      omega
    refine lv_icmp_gt (tgt := 795) hx hb d_L_law_29 (by decide) (fun c1 => ?_) (fun c1 => ?_)
    · refine lv_iconst (v := 1) hx hb d_L_law_795 (by decide) ?_
      refine va_forget (fun q hq => hS.2.2 q hq) ?_
      refine W.widen (k := 643214) (n := 7166462) (by omega) (by omega) ?_
      exact lw_ret hx hb hr hlocks d_L_law_796
    · have hin : 5 * j + 5 ≤ L := by
        have : ¬ (L : Int) - 5 < 5 * j := fun w => c1 (hc.mpr w)
        omega
      refine lv_aload_n hx hb d_L_law_32 rfl (lv_at hl 0 rfl) ?_
      refine lv_iload hx hb d_L_law_33 (lv_at hl 4 rfl) ?_
      refine va_sld hx hb hX hbl hbA hS (vp_in_nI (show 5 * j < L by omega) (by omega)) d_L_law_35 ?_
      refine lv_bipush (v := 15) hx hb d_L_law_36 (by decide) ?_
      refine lv_iand hx hb d_L_law_38 ?_
      refine lv_topi (fun w ew => ?_)
      have hi : ∀ i : Int32, i = 1 ∨ i = 2 ∨ i = 3 ∨ i = 4 → vp_in (nI (5 * j) + i) L := by
        intro i hh
        rcases hh with rfl | rfl | rfl | rfl
        · rw [show (1 : Int32) = nI 1 from rfl, nI_add]; exact vp_in_nI (by omega) (by omega)
        · rw [show (2 : Int32) = nI 2 from rfl, nI_add]; exact vp_in_nI (by omega) (by omega)
        · rw [show (3 : Int32) = nI 3 from rfl, nI_add]; exact vp_in_nI (by omega) (by omega)
        · rw [show (4 : Int32) = nI 4 from rfl, nI_add]; exact vp_in_nI (by omega) (by omega)
      have hk : lwK p l e s m below meth c b dC dI h k h' k' (nI (5 * j)) (52 + j + 1) (499 + 6 * j + 6) := by
        intro st ms H locs ls hI hP hD hS hl
        obtain ⟨y, ey⟩ : ∃ y : Int32, y = nI (5 * j) + 5 := ⟨_, rfl⟩
        refine lv_iinc (v := y) (lv' := [(4, .int y), (0, .ref b), (1, .ref (h 0)), (2, .ref (h' 0)), (3, .ref (h 45))]) hx hb d_L_law_789 hl (k := 4) rfl (by rw [ey]; rfl) (by decide) rfl (fun ls hl => ?_)
        have e5 : y = nI (5 * (j + 1)) := by rw [ey, show (5 : Int32) = nI 5 from rfl, nI_add]; congr 1
        rw [e5] at hl
        refine lv_goto (tgt := 23) hx hb d_L_law_792 (by decide) ?_
        refine W.widen (k := 52 + (j + 1)) (n := 499 + 6 * (j + 1)) (by omega) (by omega) ?_
        exact ih (j + 1) (by omega) (by omega) st ms H locs ls hI hP hD hS (lv_sub hl [1, 2, 3, 4, 0] rfl)
      have hcc : 52 + j + 1 ≤ 643214 := by omega
      have hss : 499 + 6 * j + 6 ≤ 7166462 := by omega
      by_cases z0 : w = 0
      · refine lv_tableIn (tgt := 104) hx hb d_L_law_39 (by rw [z0]; decide) (by rw [z0]; decide) (off := 65) (by rw [z0]; rfl) (by decide) ?_
        exact q_line hst C0 hF hK hi hcc hss hk hI hP hD hS hl
      by_cases z1 : w = 1
      · refine lv_tableIn (tgt := 184) hx hb d_L_law_39 (by rw [z1]; decide) (by rw [z1]; decide) (off := 145) (by rw [z1]; rfl) (by decide) ?_
        exact q_drop hst C0 hF hK hi hcc hss hk hI hP hD hS hl
      by_cases z2 : w = 2
      · refine lv_tableIn (tgt := 220) hx hb d_L_law_39 (by rw [z2]; decide) (by rw [z2]; decide) (off := 181) (by rw [z2]; rfl) (by decide) ?_
        exact q_cuts hst C0 hF hK hi hcc hss hk hI hP hD hS hl
      by_cases z3 : w = 3
      · refine lv_tableIn (tgt := 233) hx hb d_L_law_39 (by rw [z3]; decide) (by rw [z3]; decide) (off := 194) (by rw [z3]; rfl) (by decide) ?_
        exact q_cut hst C0 hF hK hi hcc hss hk hI hP hD hS hl
      by_cases z4 : w = 4
      · refine lv_tableIn (tgt := 300) hx hb d_L_law_39 (by rw [z4]; decide) (by rw [z4]; decide) (off := 261) (by rw [z4]; rfl) (by decide) ?_
        exact q_curves hst C0 hF hK hi hcc hss hk hI hP hD hS hl
      by_cases z5 : w = 5
      · refine lv_tableIn (tgt := 356) hx hb d_L_law_39 (by rw [z5]; decide) (by rw [z5]; decide) (off := 317) (by rw [z5]; rfl) (by decide) ?_
        exact q_total hst C0 hF hK hi hcc hss hk hI hP hD hS hl
      by_cases z6 : w = 6
      · refine lv_tableIn (tgt := 369) hx hb d_L_law_39 (by rw [z6]; decide) (by rw [z6]; decide) (off := 330) (by rw [z6]; rfl) (by decide) ?_
        exact q_cell hst C0 hF hK hi hcc hss hk hI hP hD hS hl
      by_cases z7 : w = 7
      · refine lv_tableIn (tgt := 437) hx hb d_L_law_39 (by rw [z7]; decide) (by rw [z7]; decide) (off := 398) (by rw [z7]; rfl) (by decide) ?_
        exact q_sample hst C0 hF hK hi hcc hss hk hI hP hD hS hl
      by_cases z8 : w = 8
      · refine lv_tableIn (tgt := 516) hx hb d_L_law_39 (by rw [z8]; decide) (by rw [z8]; decide) (off := 477) (by rw [z8]; rfl) (by decide) ?_
        exact q_sign hst C0 hF hK hi hcc hss hk hI hP hD hS hl
      by_cases z9 : w = 9
      · refine lv_tableIn (tgt := 584) hx hb d_L_law_39 (by rw [z9]; decide) (by rw [z9]; decide) (off := 545) (by rw [z9]; rfl) (by decide) ?_
        exact q_at hst C0 hF hK hi hcc hss hk hI hP hD hS hl
      by_cases z10 : w = 10
      · refine lv_tableIn (tgt := 676) hx hb d_L_law_39 (by rw [z10]; decide) (by rw [z10]; decide) (off := 637) (by rw [z10]; rfl) (by decide) ?_
        exact q_find hst C0 hF hK hi hcc hss hk hI hP hD hS hl
      by_cases z11 : w = 11
      · refine lv_tableIn (tgt := 701) hx hb d_L_law_39 (by rw [z11]; decide) (by rw [z11]; decide) (off := 662) (by rw [z11]; rfl) (by decide) ?_
        exact q_touch hst C0 hF hK hi hcc hss hk hI hP hD hS hl
      by_cases z12 : w = 12
      · refine lv_tableIn (tgt := 776) hx hb d_L_law_39 (by rw [z12]; decide) (by rw [z12]; decide) (off := 737) (by rw [z12]; rfl) (by decide) ?_
        exact q_lines hst C0 hF hK hi hcc hss hk hI hP hD hS hl
      have t0 := lv_neT z0 (show (0 : Int32).toInt = 0 from by decide)
      have t1 := lv_neT z1 (show (1 : Int32).toInt = 1 from by decide)
      have t2 := lv_neT z2 (show (2 : Int32).toInt = 2 from by decide)
      have t3 := lv_neT z3 (show (3 : Int32).toInt = 3 from by decide)
      have t4 := lv_neT z4 (show (4 : Int32).toInt = 4 from by decide)
      have t5 := lv_neT z5 (show (5 : Int32).toInt = 5 from by decide)
      have t6 := lv_neT z6 (show (6 : Int32).toInt = 6 from by decide)
      have t7 := lv_neT z7 (show (7 : Int32).toInt = 7 from by decide)
      have t8 := lv_neT z8 (show (8 : Int32).toInt = 8 from by decide)
      have t9 := lv_neT z9 (show (9 : Int32).toInt = 9 from by decide)
      have t10 := lv_neT z10 (show (10 : Int32).toInt = 10 from by decide)
      have t11 := lv_neT z11 (show (11 : Int32).toInt = 11 from by decide)
      have t12 := lv_neT z12 (show (12 : Int32).toInt = 12 from by decide)
      refine lv_tableOut (tgt := 789) hx hb d_L_law_39 (by omega) (by decide) ?_
      refine W.widen (k := 52 + j + 1) (n := 499 + 6 * j + 6) (by omega) (by omega) ?_
      exact hk st ms H locs ls hI hP hD hS hl
