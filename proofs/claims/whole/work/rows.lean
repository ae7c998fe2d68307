section
-- ===== PART A: goes FIRST, ahead of the names: the tables' words, and 'selects' of the private methods out of them =====
/-- a private method of a class that the tables say can be made, by its rows of tables_1 -/
def lw_okq (q : MethodName × Nat) : Prop := (q.1.cls ≠ "java/lang/invoke/MethodHandle" ∧ q.1.cls ≠ "java/lang/invoke/VarHandle") ∧ Cond.instantiable q.1.cls q.2 ∈ tables_1 ∧ Cond.privateMethod q.1 ∈ tables_1 ∧ Cond.instanceMethod q.1 ∈ tables_1
theorem lw_p0 : lw_okq (⟨"CellProjection", "rebuild", "()V"⟩, 10) := ⟨⟨by decide +kernel, by decide +kernel⟩, List.mem_of_getElem? (i := 14) (by decide +kernel), List.mem_of_getElem? (i := 43) (by decide +kernel), List.mem_of_getElem? (i := 44) (by decide +kernel)⟩
theorem lw_p1 : lw_okq (⟨"CellProjection", "gatherCuts", "()V"⟩, 10) := ⟨⟨by decide +kernel, by decide +kernel⟩, List.mem_of_getElem? (i := 14) (by decide +kernel), List.mem_of_getElem? (i := 47) (by decide +kernel), List.mem_of_getElem? (i := 48) (by decide +kernel)⟩
theorem lw_p2 : lw_okq (⟨"CellProjection", "addCut", "(II)V"⟩, 10) := ⟨⟨by decide +kernel, by decide +kernel⟩, List.mem_of_getElem? (i := 14) (by decide +kernel), List.mem_of_getElem? (i := 51) (by decide +kernel), List.mem_of_getElem? (i := 52) (by decide +kernel)⟩
theorem lw_p3 : lw_okq (⟨"CellProjection", "stripCount", "()I"⟩, 10) := ⟨⟨by decide +kernel, by decide +kernel⟩, List.mem_of_getElem? (i := 14) (by decide +kernel), List.mem_of_getElem? (i := 66) (by decide +kernel), List.mem_of_getElem? (i := 67) (by decide +kernel)⟩
theorem lw_p4 : lw_okq (⟨"CellProjection", "layStrip", "(I)V"⟩, 10) := ⟨⟨by decide +kernel, by decide +kernel⟩, List.mem_of_getElem? (i := 14) (by decide +kernel), List.mem_of_getElem? (i := 70) (by decide +kernel), List.mem_of_getElem? (i := 71) (by decide +kernel)⟩
theorem lw_p5 : lw_okq (⟨"CellProjection", "measureHeights", "(JJ)V"⟩, 10) := ⟨⟨by decide +kernel, by decide +kernel⟩, List.mem_of_getElem? (i := 14) (by decide +kernel), List.mem_of_getElem? (i := 91) (by decide +kernel), List.mem_of_getElem? (i := 92) (by decide +kernel)⟩
theorem lw_p6 : lw_okq (⟨"CellProjection", "heightAbove", "(IJJ)J"⟩, 10) := ⟨⟨by decide +kernel, by decide +kernel⟩, List.mem_of_getElem? (i := 14) (by decide +kernel), List.mem_of_getElem? (i := 95) (by decide +kernel), List.mem_of_getElem? (i := 96) (by decide +kernel)⟩
theorem lw_p7 : lw_okq (⟨"CellProjection", "heightBelow", "(IJ)J"⟩, 10) := ⟨⟨by decide +kernel, by decide +kernel⟩, List.mem_of_getElem? (i := 14) (by decide +kernel), List.mem_of_getElem? (i := 99) (by decide +kernel), List.mem_of_getElem? (i := 100) (by decide +kernel)⟩
theorem lw_p8 : lw_okq (⟨"CellProjection", "cellsOf", "(I)I"⟩, 10) := ⟨⟨by decide +kernel, by decide +kernel⟩, List.mem_of_getElem? (i := 14) (by decide +kernel), List.mem_of_getElem? (i := 150) (by decide +kernel), List.mem_of_getElem? (i := 151) (by decide +kernel)⟩
theorem lw_p9 : lw_okq (⟨"CellProjection", "hasSigns", "(III)Z"⟩, 10) := ⟨⟨by decide +kernel, by decide +kernel⟩, List.mem_of_getElem? (i := 14) (by decide +kernel), List.mem_of_getElem? (i := 154) (by decide +kernel), List.mem_of_getElem? (i := 155) (by decide +kernel)⟩
theorem lw_p10 : lw_okq (⟨"CellProjection", "signIn", "(III)I"⟩, 10) := ⟨⟨by decide +kernel, by decide +kernel⟩, List.mem_of_getElem? (i := 14) (by decide +kernel), List.mem_of_getElem? (i := 158) (by decide +kernel), List.mem_of_getElem? (i := 159) (by decide +kernel)⟩
theorem lw_p11 : lw_okq (⟨"java/lang/Throwable", "fillInStackTrace", "(I)Ljava/lang/Throwable;"⟩, 6) := ⟨⟨by decide +kernel, by decide +kernel⟩, List.mem_of_getElem? (i := 223) (by decide +kernel), List.mem_of_getElem? (i := 221) (by decide +kernel), List.mem_of_getElem? (i := 222) (by decide +kernel)⟩
theorem lw_p12 : lw_okq (⟨"CellProjection", "isLine", "(I)Z"⟩, 10) := ⟨⟨by decide +kernel, by decide +kernel⟩, List.mem_of_getElem? (i := 14) (by decide +kernel), List.mem_of_getElem? (i := 278) (by decide +kernel), List.mem_of_getElem? (i := 279) (by decide +kernel)⟩
theorem lw_p13 : lw_okq (⟨"CellProjection", "isCell", "(I)Z"⟩, 10) := ⟨⟨by decide +kernel, by decide +kernel⟩, List.mem_of_getElem? (i := 14) (by decide +kernel), List.mem_of_getElem? (i := 325) (by decide +kernel), List.mem_of_getElem? (i := 326) (by decide +kernel)⟩
theorem lw_p14 : lw_okq (⟨"CellProjection", "stripOf", "(I)I"⟩, 10) := ⟨⟨by decide +kernel, by decide +kernel⟩, List.mem_of_getElem? (i := 14) (by decide +kernel), List.mem_of_getElem? (i := 330) (by decide +kernel), List.mem_of_getElem? (i := 331) (by decide +kernel)⟩
theorem lw_p15 : lw_okq (⟨"CellProjection", "reaches", "(IIII)Z"⟩, 10) := ⟨⟨by decide +kernel, by decide +kernel⟩, List.mem_of_getElem? (i := 14) (by decide +kernel), List.mem_of_getElem? (i := 369) (by decide +kernel), List.mem_of_getElem? (i := 370) (by decide +kernel)⟩
def lw_privs_1 : List (MethodName × Nat) := [(⟨"CellProjection", "rebuild", "()V"⟩, 10), (⟨"CellProjection", "gatherCuts", "()V"⟩, 10), (⟨"CellProjection", "addCut", "(II)V"⟩, 10), (⟨"CellProjection", "stripCount", "()I"⟩, 10), (⟨"CellProjection", "layStrip", "(I)V"⟩, 10), (⟨"CellProjection", "measureHeights", "(JJ)V"⟩, 10), (⟨"CellProjection", "heightAbove", "(IJJ)J"⟩, 10), (⟨"CellProjection", "heightBelow", "(IJ)J"⟩, 10), (⟨"CellProjection", "cellsOf", "(I)I"⟩, 10), (⟨"CellProjection", "hasSigns", "(III)Z"⟩, 10), (⟨"CellProjection", "signIn", "(III)I"⟩, 10), (⟨"java/lang/Throwable", "fillInStackTrace", "(I)Ljava/lang/Throwable;"⟩, 6), (⟨"CellProjection", "isLine", "(I)Z"⟩, 10), (⟨"CellProjection", "isCell", "(I)Z"⟩, 10), (⟨"CellProjection", "stripOf", "(I)I"⟩, 10), (⟨"CellProjection", "reaches", "(IIII)Z"⟩, 10)]
theorem lw_r1 : ∀ q ∈ lw_privs_1, lw_okq q := List.forall_mem_cons.mpr ⟨lw_p0, List.forall_mem_cons.mpr ⟨lw_p1, List.forall_mem_cons.mpr ⟨lw_p2, List.forall_mem_cons.mpr ⟨lw_p3, List.forall_mem_cons.mpr ⟨lw_p4, List.forall_mem_cons.mpr ⟨lw_p5, List.forall_mem_cons.mpr ⟨lw_p6, List.forall_mem_cons.mpr ⟨lw_p7, List.forall_mem_cons.mpr ⟨lw_p8, List.forall_mem_cons.mpr ⟨lw_p9, List.forall_mem_cons.mpr ⟨lw_p10, List.forall_mem_cons.mpr ⟨lw_p11, List.forall_mem_cons.mpr ⟨lw_p12, List.forall_mem_cons.mpr ⟨lw_p13, List.forall_mem_cons.mpr ⟨lw_p14, List.forall_mem_cons.mpr ⟨lw_p15, fun _ h => absurd h List.not_mem_nil⟩⟩⟩⟩⟩⟩⟩⟩⟩⟩⟩⟩⟩⟩⟩⟩
theorem lw_p16 : lw_okq (⟨"CellProjectionModel", "look", "()V"⟩, 15) := ⟨⟨by decide +kernel, by decide +kernel⟩, List.mem_of_getElem? (i := 373) (by decide +kernel), List.mem_of_getElem? (i := 438) (by decide +kernel), List.mem_of_getElem? (i := 439) (by decide +kernel)⟩
theorem lw_p17 : lw_okq (⟨"CellProjectionModel", "lowest", "(JJ)V"⟩, 15) := ⟨⟨by decide +kernel, by decide +kernel⟩, List.mem_of_getElem? (i := 373) (by decide +kernel), List.mem_of_getElem? (i := 442) (by decide +kernel), List.mem_of_getElem? (i := 443) (by decide +kernel)⟩
theorem lw_p18 : lw_okq (⟨"CellProjectionModel", "keepCut", "()V"⟩, 15) := ⟨⟨by decide +kernel, by decide +kernel⟩, List.mem_of_getElem? (i := 373) (by decide +kernel), List.mem_of_getElem? (i := 446) (by decide +kernel), List.mem_of_getElem? (i := 447) (by decide +kernel)⟩
theorem lw_p19 : lw_okq (⟨"CellProjectionModel", "curvesOf", "(I)V"⟩, 15) := ⟨⟨by decide +kernel, by decide +kernel⟩, List.mem_of_getElem? (i := 373) (by decide +kernel), List.mem_of_getElem? (i := 470) (by decide +kernel), List.mem_of_getElem? (i := 471) (by decide +kernel)⟩
theorem lw_p20 : lw_okq (⟨"CellProjectionModel", "sampleX", "(I)V"⟩, 15) := ⟨⟨by decide +kernel, by decide +kernel⟩, List.mem_of_getElem? (i := 373) (by decide +kernel), List.mem_of_getElem? (i := 474) (by decide +kernel), List.mem_of_getElem? (i := 475) (by decide +kernel)⟩
theorem lw_p21 : lw_okq (⟨"CellProjectionModel", "findCurves", "()V"⟩, 15) := ⟨⟨by decide +kernel, by decide +kernel⟩, List.mem_of_getElem? (i := 373) (by decide +kernel), List.mem_of_getElem? (i := 479) (by decide +kernel), List.mem_of_getElem? (i := 480) (by decide +kernel)⟩
theorem lw_p22 : lw_okq (⟨"CellProjectionModel", "lineAt", "(I)V"⟩, 15) := ⟨⟨by decide +kernel, by decide +kernel⟩, List.mem_of_getElem? (i := 373) (by decide +kernel), List.mem_of_getElem? (i := 483) (by decide +kernel), List.mem_of_getElem? (i := 484) (by decide +kernel)⟩
theorem lw_p23 : lw_okq (⟨"CellProjectionModel", "below", "()I"⟩, 15) := ⟨⟨by decide +kernel, by decide +kernel⟩, List.mem_of_getElem? (i := 373) (by decide +kernel), List.mem_of_getElem? (i := 487) (by decide +kernel), List.mem_of_getElem? (i := 488) (by decide +kernel)⟩
theorem lw_p24 : lw_okq (⟨"CellProjectionModel", "isCell", "(I)Z"⟩, 15) := ⟨⟨by decide +kernel, by decide +kernel⟩, List.mem_of_getElem? (i := 373) (by decide +kernel), List.mem_of_getElem? (i := 499) (by decide +kernel), List.mem_of_getElem? (i := 500) (by decide +kernel)⟩
theorem lw_p25 : lw_okq (⟨"CellProjectionModel", "sampleY", "()V"⟩, 15) := ⟨⟨by decide +kernel, by decide +kernel⟩, List.mem_of_getElem? (i := 373) (by decide +kernel), List.mem_of_getElem? (i := 507) (by decide +kernel), List.mem_of_getElem? (i := 508) (by decide +kernel)⟩
theorem lw_p26 : lw_okq (⟨"CellProjectionModel", "told", "(I)J"⟩, 15) := ⟨⟨by decide +kernel, by decide +kernel⟩, List.mem_of_getElem? (i := 373) (by decide +kernel), List.mem_of_getElem? (i := 511) (by decide +kernel), List.mem_of_getElem? (i := 512) (by decide +kernel)⟩
theorem lw_p27 : lw_okq (⟨"CellProjectionModel", "signAt", "(I)I"⟩, 15) := ⟨⟨by decide +kernel, by decide +kernel⟩, List.mem_of_getElem? (i := 373) (by decide +kernel), List.mem_of_getElem? (i := 519) (by decide +kernel), List.mem_of_getElem? (i := 520) (by decide +kernel)⟩
theorem lw_p28 : lw_okq (⟨"CellProjectionModel", "isSo", "(I)Z"⟩, 15) := ⟨⟨by decide +kernel, by decide +kernel⟩, List.mem_of_getElem? (i := 373) (by decide +kernel), List.mem_of_getElem? (i := 533) (by decide +kernel), List.mem_of_getElem? (i := 534) (by decide +kernel)⟩
theorem lw_p29 : lw_okq (⟨"CellProjectionModel", "ends", "(III)I"⟩, 15) := ⟨⟨by decide +kernel, by decide +kernel⟩, List.mem_of_getElem? (i := 373) (by decide +kernel), List.mem_of_getElem? (i := 542) (by decide +kernel), List.mem_of_getElem? (i := 543) (by decide +kernel)⟩
theorem lw_p30 : lw_okq (⟨"CellProjectionModel", "lineOf", "(II)I"⟩, 15) := ⟨⟨by decide +kernel, by decide +kernel⟩, List.mem_of_getElem? (i := 373) (by decide +kernel), List.mem_of_getElem? (i := 546) (by decide +kernel), List.mem_of_getElem? (i := 547) (by decide +kernel)⟩
def lw_privs_2 : List (MethodName × Nat) := [(⟨"CellProjectionModel", "look", "()V"⟩, 15), (⟨"CellProjectionModel", "lowest", "(JJ)V"⟩, 15), (⟨"CellProjectionModel", "keepCut", "()V"⟩, 15), (⟨"CellProjectionModel", "curvesOf", "(I)V"⟩, 15), (⟨"CellProjectionModel", "sampleX", "(I)V"⟩, 15), (⟨"CellProjectionModel", "findCurves", "()V"⟩, 15), (⟨"CellProjectionModel", "lineAt", "(I)V"⟩, 15), (⟨"CellProjectionModel", "below", "()I"⟩, 15), (⟨"CellProjectionModel", "isCell", "(I)Z"⟩, 15), (⟨"CellProjectionModel", "sampleY", "()V"⟩, 15), (⟨"CellProjectionModel", "told", "(I)J"⟩, 15), (⟨"CellProjectionModel", "signAt", "(I)I"⟩, 15), (⟨"CellProjectionModel", "isSo", "(I)Z"⟩, 15), (⟨"CellProjectionModel", "ends", "(III)I"⟩, 15), (⟨"CellProjectionModel", "lineOf", "(II)I"⟩, 15)]
theorem lw_r2 : ∀ q ∈ lw_privs_2, lw_okq q := List.forall_mem_cons.mpr ⟨lw_p16, List.forall_mem_cons.mpr ⟨lw_p17, List.forall_mem_cons.mpr ⟨lw_p18, List.forall_mem_cons.mpr ⟨lw_p19, List.forall_mem_cons.mpr ⟨lw_p20, List.forall_mem_cons.mpr ⟨lw_p21, List.forall_mem_cons.mpr ⟨lw_p22, List.forall_mem_cons.mpr ⟨lw_p23, List.forall_mem_cons.mpr ⟨lw_p24, List.forall_mem_cons.mpr ⟨lw_p25, List.forall_mem_cons.mpr ⟨lw_p26, List.forall_mem_cons.mpr ⟨lw_p27, List.forall_mem_cons.mpr ⟨lw_p28, List.forall_mem_cons.mpr ⟨lw_p29, List.forall_mem_cons.mpr ⟨lw_p30, fun _ h => absurd h List.not_mem_nil⟩⟩⟩⟩⟩⟩⟩⟩⟩⟩⟩⟩⟩⟩⟩
def lw_privs : List (MethodName × Nat) := lw_privs_1 ++ (lw_privs_2)
def lw_tbl : List Cond := k2_sels lw_privs ++ tables_1
theorem lw_privs_ok : ∀ q ∈ lw_privs, lw_okq q := by
  show ∀ q ∈ lw_privs_1 ++ (lw_privs_2), lw_okq q
  exact List.forall_mem_append.mpr ⟨lw_r1, lw_r2⟩
-- ===== end of PART A; then your names; then what follows =====
end
section
/-! ===== BEGIN words of one list among another's, by their places ===== -/
theorem goodIn_r {big : List Cond} (ws : List Cond) (ps : List Nat) (hp : ws = ps.filterMap (fun i => big[i]?)) (h : ws.all goodWord = true) : GoodIn big ws := by
  intro w hw
  have h1 := List.all_eq_true.mp h w hw
  rw [hp] at hw
  obtain ⟨i, -, hi⟩ := List.mem_filterMap.mp hw
  have hm : w ∈ big := by first | exact List.mem_of_getElem? hi | exact List.getElem?_mem hi
  exact ⟨hm, good_of_word h1⟩
theorem goodIn_app {big a b : List Cond} (ha : GoodIn big a) (hb : GoodIn big b) : GoodIn big (a ++ b) := fun w h => (List.mem_append.mp h).elim (ha w) (hb w)
theorem goodIn_ca {big a b : List Cond} {c : Cond} (ha : GoodIn big (c :: a)) (hb : GoodIn big b) : GoodIn big (c :: (a ++ b)) := fun w h => (List.mem_cons.mp h).elim (fun e => ha w (List.mem_cons.mpr (Or.inl e))) (fun h => (List.mem_append.mp h).elim (fun h => ha w (List.mem_cons.mpr (Or.inr h))) (hb w))
theorem goodIn_sub {big ws : List Cond} (hm : ∀ w ∈ ws, w ∈ big) (h : ws.all goodWord = true) : GoodIn big ws := fun w hw => ⟨hm w hw, good_of_word (List.all_eq_true.mp h w hw)⟩
/-! ===== END ===== -/

def va_AOA (t : FieldType) (U : State) : Prop := (Cond.arrayOver (.array t)).before #[] U = true
theorem va_AOA.use {t : FieldType} {A : Array Value} {U : State} (h : va_AOA t U) : (Cond.arrayOver (.array t)).before A U = true := h
/-! ===== BEGIN new T[n][m]: the outer array a place, the inner ones among the pooled ===== -/
/-- f, but v at every address of l -/
def vr_up {α : Type} (f : Nat → α) (l : List Nat) (v : α) : Nat → α := fun a => if a ∈ l then v else f a
theorem vr_up_in {α : Type} {f : Nat → α} {l : List Nat} {v : α} {a : Nat} (h : a ∈ l) : vr_up f l v a = v := if_pos h
theorem vr_up_ne {α : Type} {f : Nat → α} {l : List Nat} {v : α} {a : Nat} (h : a ∉ l) : vr_up f l v a = f a := if_neg h
theorem vr_rows {L l : List Nat} {f : Nat → va_E} {e : va_E} (h : ∀ a, a ∈ l → a ∉ L) : va_pl L f ++ l.map (fun a => (a, e)) = va_pl (L ++ l) (vr_up f l e) := by
  unfold va_pl
  rw [List.map_append]
  congr 1
  · apply List.map_congr_left
    intro a ha
    rw [vr_up_ne (fun q => h a q ha)]
  · apply List.map_congr_left
    intro a ha
    rw [vr_up_in ha]
theorem vr_lay {X rows : va_W} {x : Nat × va_E} {pl : va_W} {D : va_G} {cl : List vw_C} {H : Heap} (hP : va_P D cl (((X ++ pl) ++ [x]) ++ rows) H) : va_P D cl ((X ++ [x]) ++ (pl ++ rows)) H := by
  rw [List.append_assoc (X ++ pl)] at hP
  have h := va_P.swap hP
  rw [← List.append_assoc X] at h
  have h2 := va_P.swap h
  rw [List.append_assoc (X ++ [x])] at h2
  exact h2
theorem vr_layD {X rows : va_W} {x : Nat × va_E} {pl : va_W} {A : Nat → Prop} (hD : va_D A (((X ++ pl) ++ [x]) ++ rows)) : va_D A ((X ++ [x]) ++ (pl ++ rows)) := by
  rw [List.append_assoc (X ++ pl)] at hD
  have h := va_D.swap hD
  rw [← List.append_assoc X] at h
  have h2 := va_D.swap h
  rw [List.append_assoc (X ++ [x])] at h2
  exact h2
theorem vr_outer (c : ClassId) (N h0 : Nat) : ∀ i : Nat, Jvm.Free.Multi.outerC c N h0 i = arrV c N (fun j => va_rf (if j < i then some (h0 + 1 + j) else none))
  | 0 => by
    show ({ cls := c, slots := Array.replicate N .null, vm := .none } : Cell) = _
    rw [arrV_new]
    refine congrArg (arrV c N) (funext fun j => ?_)
    simp [va_rf]
  | i + 1 => by
    show (Jvm.Free.Multi.outerC c N h0 i).setSlot i (.ref (h0 + 1 + i)) = _
    rw [vr_outer c N h0 i, arrV_store]
    refine congrArg (arrV c N) (funext fun j => ?_)
    by_cases e : j = i
    · subst e
      simp [updV, va_rf]
    · by_cases h : j < i
      · simp [updV, e, h, Nat.lt_succ_of_lt h]
      · simp [updV, e, h, show ¬ j < i + 1 by omega]
section VGM
variable {p : Program} {l : Launch} {e : Env} {R : Room} {s : State} {m : MethodId} {args : Array Value} {below : List Frame} {meth : Method} {c : Code} {H : Heap} {locs : List Loc} {cells slots : Nat} {Q : State → Prop}
variable {cc : ByteArray} {pc : Nat} {ls : Array Slot} {rest : List Value} {D : va_G} {cl : List vw_C} {A : Nat → Prop} {a : Nat} {tys : List (ClassId × FieldType)} {ws : va_W} {H0 : Heap}
theorem va_mna {X : va_W} {L : List Nat} {f : Nat → va_E} {cc : ByteArray} (hexec : p.tables.exec = Jvm.exec) (hb : c.code = cc) {own : String} {index : Nat} {ty : FieldType} {cy : ClassId} (hown : s.vm.findClass own = some m.cls) (hclink : (Cond.classLink own index ("[" ++ (FieldType.array ty).toString)).before args s = true) (hover : va_AOA ty s) (harr : (Cond.arrayClass ty).before args s = true) (hcy : s.vm.findClass (FieldType.array ty).toString = some cy)
    (hK : va_K D cl tys s) (hP : va_P D cl (X ++ va_pl L f) H) (hD : va_D A (X ++ va_pl L f)) (hS : va_S A H0 H locs) (hA : ∀ q, H0.size ≤ q → A q) {n k : Int32} {N' K' : Nat} {z : vp_A} (hn : ¬ n < 0) (hk : ¬ k < 0) (hN : n.toNatClampNeg = N') (hM : k.toNatClampNeg = K')
    (hb1 : N' * 4 ≤ 536870912) (hb2 : K' * componentBytes ty ≤ 536870912) (hb3 : K' ≤ 536870912) (hdf : fits ty (defaultValue ty) = true) (hdd : (defaultValue ty).isDefault = true) (hcells : cells + (1 + N') ≤ R.cells) (hslots : slots + (N' + N' * K') ≤ R.slots) (hz : ∀ c : ClassId, Jvm.Free.Multi.innerC c K' (defaultValue ty) = vp_cell c z) (hdg : decode cc pc = .ok (.multianewarray index 2, 4))
    (kk : ∀ (q : Nat) (r : Nat → Nat) (cA : ClassId) (H1 : Heap), (∀ i j : Nat, i < N' → j < N' → r i = r j → i = j) → (∀ i : Nat, i < N' → r i ∉ L) → va_K D cl (tys ++ [(cA, .array ty)]) s →
      va_P D cl ((X ++ [(q, .inl (cA, N', .inr (.inr (.inr (.inr (fun i => if i < N' then some (r i) else none))))))]) ++ va_pl (L ++ (List.range N').map r) (vr_up f ((List.range N').map r) (.inl (cy, z)))) H1 → va_D A ((X ++ [(q, .inl (cA, N', .inr (.inr (.inr (.inr (fun i => if i < N' then some (r i) else none))))))]) ++ va_pl (L ++ (List.range N').map r) (vr_up f ((List.range N').map r) (.inl (cy, z)))) → va_S A H0 H1 locs →
      W p l e R s m args below meth c H1 locs (cells + 1 + N') (slots + N' + N' * K') Q (F0 m (pc + 4) ls (.ref q :: rest))) : W p l e R s m args below meth c H locs cells slots Q (F0 m pc ls (.int k :: .int n :: rest)) := by
  subst hN
  subst hM
  intro T hT Xs
  obtain ⟨vm₁, cA, comp, -, fA, fC, hO, -, X', step⟩ := Xs.multianewarray2F hexec hown hclink (va_AOA.use hover) harr (g := F0 m pc ls (.int k :: .int n :: rest)) rfl (by rw [hb]; exact hdg) rfl hn hk hb1 hb2 hb3 hdf hdd hcells hslots
  have ec : some cy = some comp := hcy.symm.trans fC
  cases ec
  generalize hF : Jvm.Free.Multi.fill (T.setVm vm₁) cA cy n.toNatClampNeg k.toNatClampNeg (defaultValue ty) n.toNatClampNeg = F at X' step
  have hTh : (T.setVm vm₁).heap = H := hT
  obtain ⟨f1, f2, -, -⟩ := Jvm.Free.Multi.fill_facts (T.setVm vm₁) cA cy n.toNatClampNeg k.toNatClampNeg (defaultValue ty) n.toNatClampNeg
  rw [hF, hTh] at f1 f2
  have hold : ∀ x : Nat, x < H.size → F.heap[x]? = H[x]? := fun x hx => by
    have := Jvm.Free.Multi.fill_old (T.setVm vm₁) cA cy n.toNatClampNeg k.toNatClampNeg (defaultValue ty) (a := x) (by rw [hTh]; exact hx) n.toNatClampNeg
    rw [hF, hTh] at this
    exact this
  have hrow : ∀ j : Nat, j < n.toNatClampNeg → F.heap[H.size + 1 + j]? = some (vp_cell cy z) := fun j hj => by
    have := Jvm.Free.Multi.fill_inner (T.setVm vm₁) cA cy n.toNatClampNeg k.toNatClampNeg (defaultValue ty) n.toNatClampNeg j hj
    rw [hF, hTh, hz] at this
    exact this
  have hout : Jvm.Free.Multi.outerC cA n.toNatClampNeg H.size n.toNatClampNeg = vp_cell cA (n.toNatClampNeg, .inr (.inr (.inr (.inr (fun i => if i < n.toNatClampNeg then some (H.size + 1 + i) else none))))) := by
    rw [vp_cell_q]
    exact vr_outer cA n.toNatClampNeg H.size n.toNatClampNeg
  rw [hout] at f2
  have hlt : ∀ a, a ∈ L → a < H.size := fun a ha => by
    obtain ⟨k9, hk9⟩ := va_pl_get (X := X) (f := f) ha
    exact (hP k9 _ hk9).lt
  have hnl : ∀ i : Nat, i < n.toNatClampNeg → H.size + 1 + i ∉ L := fun i _ h => by
    have := hlt _ h
    omega
  have hnm : ∀ a, a ∈ (List.range n.toNatClampNeg).map (fun i => H.size + 1 + i) → a ∉ L := fun a ha h => by
    obtain ⟨i, -, rfl⟩ := List.mem_map.mp ha
    have := hlt _ h
    omega
  have hP0 : va_P D cl (X ++ va_pl L f) F.heap := hP.kept (fun k9 x hx => hold x.1 ((hP k9 x hx).lt))
  have hP1 : va_P D cl ((X ++ va_pl L f) ++ [(H.size, .inl (cA, n.toNatClampNeg, .inr (.inr (.inr (.inr (fun i => if i < n.toNatClampNeg then some (H.size + 1 + i) else none))))))]) F.heap := hP0.app (fun k9 x hx => by
    have h0 : k9 < 1 := (List.getElem?_eq_some_iff.mp hx).1
    rw [show k9 = 0 by omega] at hx
    cases hx
    exact f2)
  have hP2 : va_P D cl (((X ++ va_pl L f) ++ [(H.size, .inl (cA, n.toNatClampNeg, .inr (.inr (.inr (.inr (fun i => if i < n.toNatClampNeg then some (H.size + 1 + i) else none))))))]) ++ ((List.range n.toNatClampNeg).map (fun i => H.size + 1 + i)).map (fun a => (a, .inl (cy, z)))) F.heap := hP1.app (fun k9 x hx => by
    obtain ⟨a, ha, rfl⟩ := List.mem_map.mp (List.mem_of_getElem? hx)
    obtain ⟨i, hi, rfl⟩ := List.mem_map.mp ha
    exact hrow i (List.mem_range.mp hi))
  have hD2 : va_D A (((X ++ va_pl L f) ++ [(H.size, .inl (cA, n.toNatClampNeg, .inr (.inr (.inr (.inr (fun i => if i < n.toNatClampNeg then some (H.size + 1 + i) else none))))))]) ++ ((List.range n.toNatClampNeg).map (fun i => H.size + 1 + i)).map (fun a => (a, .inl (cy, z)))) := by
    have hD1 := hD.push (e := .inl (cA, n.toNatClampNeg, .inr (.inr (.inr (.inr (fun i => if i < n.toNatClampNeg then some (H.size + 1 + i) else none)))))) hP rfl (hA _ hS.1)
    generalize hW1 : (X ++ va_pl L f) ++ [(H.size, .inl (cA, n.toNatClampNeg, .inr (.inr (.inr (.inr (fun i => if i < n.toNatClampNeg then some (H.size + 1 + i) else none))))))] = W1 at hD1 hP1 ⊢
    have hle : ∀ (k9 : Nat) (x : Nat × va_E), W1[k9]? = some x → x.1 ≤ H.size := fun k9 x hx => by
      rw [← hW1] at hx
      by_cases hl : k9 < (X ++ va_pl L f).length
      · rw [List.getElem?_append_left hl] at hx
        exact Nat.le_of_lt ((hP k9 x hx).lt)
      · rw [List.getElem?_append_right (by omega)] at hx
        have h0 : k9 - (X ++ va_pl L f).length < 1 := (List.getElem?_eq_some_iff.mp hx).1
        rw [show k9 - (X ++ va_pl L f).length = 0 by omega] at hx
        cases hx
        exact Nat.le_refl _
    have hr : ∀ (k9 : Nat) (x : Nat × va_E), (((List.range n.toNatClampNeg).map (fun i => H.size + 1 + i)).map (fun a => ((a, .inl (cy, z)) : Nat × va_E)))[k9]? = some x → x.1 = H.size + 1 + k9 := fun k9 x hx => by
      rw [List.getElem?_map, List.getElem?_map] at hx
      by_cases h9 : k9 < n.toNatClampNeg
      · rw [List.getElem?_range h9] at hx
        cases hx
        rfl
      · have hn0 : (List.range n.toNatClampNeg)[k9]? = none := List.getElem?_eq_none (by rw [List.length_range]; omega)
        rw [hn0] at hx
        cases hx
    refine ⟨fun i j x y hi hj hxy => ?_, fun k9 x hx => ?_⟩
    · by_cases h1 : i < W1.length <;> by_cases h2 : j < W1.length
      · rw [List.getElem?_append_left h1] at hi
        rw [List.getElem?_append_left h2] at hj
        exact hD1.1 i j x y hi hj hxy
      · rw [List.getElem?_append_left h1] at hi
        rw [List.getElem?_append_right (by omega)] at hj
        have := hle _ _ hi
        have := hr _ _ hj
        omega
      · rw [List.getElem?_append_right (by omega)] at hi
        rw [List.getElem?_append_left h2] at hj
        have := hle _ _ hj
        have := hr _ _ hi
        omega
      · rw [List.getElem?_append_right (by omega)] at hi hj
        have := hr _ _ hi
        have := hr _ _ hj
        omega
    · by_cases h1 : k9 < W1.length
      · rw [List.getElem?_append_left h1] at hx
        exact hD1.2 k9 x hx
      · rw [List.getElem?_append_right (by omega)] at hx
        have := hr _ _ hx
        exact hA _ (by have := hS.1; omega)
  have hAr : ArrOfT s cA (.array ty) := fun N9 z9 => by
    obtain ⟨-, k9, hk9, cm9, hkk9⟩ := (hO 0 0 0).1
    exact ⟨(fun q hq => by cases hq), k9, hk9, cm9, hkk9⟩
  have hK2 : va_K D cl (tys ++ [(cA, .array ty)]) s := ⟨hK.1, fun k9 x hx => by
    by_cases hl : k9 < tys.length
    · rw [List.getElem?_append_left hl] at hx
      exact hK.2 k9 x hx
    · rw [List.getElem?_append_right (by omega)] at hx
      have h0 : k9 - tys.length < 1 := (List.getElem?_eq_some_iff.mp hx).1
      rw [show k9 - tys.length = 0 by omega] at hx
      cases hx
      exact ⟨hAr, fA⟩⟩
  obtain ⟨t, a1, b1⟩ := kk H.size (fun i => H.size + 1 + i) cA F.heap (fun i j _ _ h => by have h9 : H.size + 1 + i = H.size + 1 + j := h; omega) hnl hK2 (by rw [← vr_rows hnm]; exact vr_lay hP2) (by rw [← vr_rows hnm]; exact vr_layD hD2) ⟨by rw [f1]; have := hS.1; omega, fun x h1 h2 => (hold x (Nat.lt_of_lt_of_le h1 hS.1)).trans (hS.2.1 x h1 h2), hS.2.2⟩ F rfl X'
  refine ⟨t, step t ?_, b1⟩
  have e : T.heap.size = H.size := by rw [hT]
  rw [e]
  exact a1
end VGM
/-! ===== END ===== -/

/-! ===== BEGIN exceptions that leave a method, and their catching by the caller (launches without stack traces) ===== -/
section VXA
/-! The laws vx_back, vx_callV, vx_callS, vx_callSW, vx_throw0, vx_throwS follow proofs of the library, with one case more: JvmDerived/Free/Laws.lean (Back.of_free), Shelf42/LK1.lean (callV, callS), Shelf/KitTraced.lean (throwNew0V, throwNewS). -/
/-- where a method has thrown q: the class by its name, the cell, what was written, the world -/
def vx_T (XC : String → State → State → Prop) (st : State) (q : Addr) (t : State) (mc ms : Nat) (free : Addr → Prop) : Prop :=
  ∃ (E : String) (ce : Cell) (L : List Loc), XC E st t ∧ t.heap[q]? = some ce ∧ ce.vm = .none ∧ st.vm.findClass E = some ce.cls ∧ st.WarmedH t.vm ∧ st.sameButNew ({ t with vm := st.vm } : State) L mc ms ∧ ∀ z ∈ L, free z.base
def vx_Q (Qc : Array Value → State → Outcome → State → Prop) (XC : String → State → State → Prop) (mc ms : Nat) (free : Addr → Prop) : Array Value → State → Outcome → State → Prop := fun a st o t =>
  (Qc a st o t ∧ ∃ L, FrameEnd st o t L mc ms ∧ ∀ q ∈ L, free q.base) ∨ ∃ q, o = .threw q ∧ vx_T XC st q t mc ms free
/-- a callee that returns or throws -/
def vx_Met (l : Launch) (y : MethodName) (ws : List Cond) (rm : Room) (Pc : Array Value → State → Prop) (Qc : Array Value → State → Outcome → State → Prop) (XC : String → State → State → Prop) (mc ms : Nat) (free : Addr → Prop) : Prop :=
  MetFree l y (headSpec ws rm) Pc (fun _ _ _ _ _ => True) (vx_Q Qc XC mc ms free)
def vx_Post (XC : String → State → State → Prop) (mc ms : Nat) (free : Addr → Prop) : Pt → Array Value → Addr → Pt → Prop := fun A a q B =>
  ∃ (g : JFrame) (mk : MethodId) (t : State) (L : List Loc) (E : String) (ce : Cell), B.U.heap = t.heap ∧ B.U.vm = t.vm ∧ XC E (A.U.calling g mk a) t ∧ t.heap[q]? = some ce ∧ ce.vm = .none ∧ A.U.vm.findClass E = some ce.cls ∧ B.locs = A.locs ++ L ∧ (∀ z ∈ L, free z.base) ∧ B.cells = A.cells + mc ∧ B.slots = A.slots + ms
def vx_Back (l : Launch) (R : Room) (p : Program) (e : Env) (below : List Frame) (s : State) (sargs : Array Value) (y : MethodName) (len W9 : Nat)
    (Pre : Pt → Array Value → Prop) (Post : Pt → Array Value → Option Value → Pt → Prop) (PostX : Pt → Array Value → Addr → Pt → Prop) : Prop :=
  ∀ (m : MethodId) (meth : Method) (c : Code) (A : Pt) (g : JFrame) (ig : Instr) (mk : MethodId) (a : Array Value),
    Stand p l e R s m sargs below meth c A.U A.locs A.cells A.slots → g.method = m → g.locals.size = c.maxLocals → decode c.code g.pc = .ok (ig, len) →
    2 * g.monitorRoom + (g.stack.map fun v => v.category).sum ≤ W9 → A.U.methodNamed? y = some mk → Pre A a →
    (∃ (v : Option Value) (B : Pt), Stand p l e R s m sargs below meth c B.U B.locs B.cells B.slots ∧ Post A a v B ∧
      Steps p.tables e below (doInvoke e (A.U.setTop g) [] mk a).1 (B.U.setTop { g with pc := g.pc + len, stack := v.toList ++ g.stack })) ∨
    (∃ (q : Addr) (B : Pt), Stand p l e R s m sargs below meth c B.U B.locs B.cells B.slots ∧ PostX A a q B ∧
      Steps p.tables e below (doInvoke e (A.U.setTop g) [] mk a).1 ((B.U.setTop g).pushFrame (.throwing q)))
section Payer
variable {l : Launch} {R : Room} {p : Program} {e : Env} {below : List Frame} {s : State} {sargs : Array Value} {y : MethodName} {len W9 : Nat}
theorem vx_back {ws : List Cond} {rm : Room} {Pc : Array Value → State → Prop} {Qc : Array Value → State → Outcome → State → Prop} {XC : String → State → State → Prop} {mc ms : Nat} {free : Addr → Prop} {bytes : ByteArray} {maxL : Nat} {ret : Option FieldType}
    (hM : vx_Met l y ws rm Pc Qc XC mc ms free) (hblind : FrameBlind Pc) (hrc : rm.cells = mc) (hrs : rm.slots = ms)
    (hframes : rm.frames + 1 ≤ R.frames) (hlocals : W9 + (maxL + 11) + rm.locals ≤ R.locals)
    (hws : ∀ w ∈ ws, ∀ a' U, s.WarmedH U.vm → w.before a' U = true) (hcode : Cond.code y bytes maxL ret ∈ ws) (hinit : ∀ a' U, s.WarmedH U.vm → (Cond.initialized y.cls).before a' U = true) :
    vx_Back l R p e below s sargs y len W9 (PreOf R mc ms Pc) (PostOf Qc mc ms free) (vx_Post XC mc ms free) := by
  intro m meth c A g ig mk a X hg hsize hdg hW hn hp
  have h1 : (headSpec ws rm).pre.before a A.U = true := atoms_intro fun w hw => hws w hw _ _ X.warmed
  have h2 : (Cond.code y bytes maxL ret).before a A.U = true := hws _ hcode _ _ X.warmed
  have h3 : (Cond.initialized y.cls).before a A.U = true := hinit _ _ X.warmed
  have h4 : A.cells + (headSpec ws rm).room.cells ≤ R.cells := by rw [show (headSpec ws rm).room.cells = mc from hrc]; exact hp.1
  have h5 : A.slots + (headSpec ws rm).room.slots ≤ R.slots := by rw [show (headSpec ws rm).room.slots = ms from hrs]; exact hp.2.1
  have hPc : Pc a (A.U.calling g mk a) := hblind _ _ _ _ hp.2.2
  obtain ⟨U, Ls, c0, s0⟩ := A
  dsimp only [Pt.U, Pt.locs, Pt.cells, Pt.slots] at h1 h2 h3 h4 h5 X hn hPc ⊢
  obtain ⟨methY, cY, hmY, hcY, -, hlY, -, -, -, -⟩ := Cond.code_spec hn h2
  obtain ⟨kY, hkY, -⟩ := className_of_methodNamed hn
  have hinitY : kY.init = .initialized := Cond.initialized_spec (findClass_of_methodNamed hn) hkY h3
  have h : At U g.method c below := by rw [hg]; exact X.here
  have hlocals9 : W9 + (maxL + 11) + (headSpec ws rm).room.locals ≤ R.locals := hlocals
  have happ : (headSpec ws rm).appliesLoose y e.platform (U.calling g mk a) = true :=
    Spec.appliesLoose_calling (g := g) h hdg hn hkY hinitY
      (X.room_calling (g := g) (R' := (headSpec ws rm).room) hsize hmY hcY hframes (by rw [hlY]; omega) h4 h5) h1
  obtain ⟨mid, hmid⟩ := h.above
  have hfr : (U.setTop g).frames = (.java g :: mid) ++ below := by rw [State.frames_setTop' g h.top, hmid]; rfl
  obtain ⟨o, s₂, hsteps, -, hend, hq⟩ := Steps.callFree hM p X.admits X.cas X.clock (acts := []) hfr happ hPc trivial
  have hq' : vx_Q Qc XC mc ms free a (U.calling g mk a) o s₂ := hq
  rw [State.frames_setTop' g h.top] at hend
  obtain ⟨g₀, hg0⟩ := Option.isSome_iff_exists.mp h.top
  obtain ⟨r, hr⟩ := State.topJava?_eq_some.mp hg0
  have hr' : (({ U with heap := s₂.heap, slotsUsed := s₂.slotsUsed } : State).setVm s₂.vm).frames = .java g₀ :: r := hr
  rcases hq' with ⟨hqc, L, hfe, hL⟩ | ⟨q, rfl, E, ce, L, hx, hce, hcv, hcl, hW₂, hsm, hL⟩
  · obtain ⟨⟨v, rfl⟩, hW₂, e2, q2, q3, q4, q5, q6⟩ := id hfe
    have e3 : s₂ = ({ (U.calling g mk a).setFrames s₂.frames with heap := s₂.heap, slotsUsed := s₂.slotsUsed } : State).setVm s₂.vm := by
      have : s₂ = ({ s₂ with vm := (U.calling g mk a).vm } : State).setVm s₂.vm := rfl
      rw [e2] at this
      exact this
    obtain ⟨c₂, i₂, len₂, hc₂, hd₂, hf₂⟩ := hend
    have hW' : U.WarmedH s₂.vm := hW₂
    have hcc : c₂ = c := by
      have h1 : s₂.code? g.method = U.code? g.method := by
        rw [State.code?_eq, State.code?_eq, hW'.alike.method?]
      exact Option.some.inj (hc₂.symm.trans (h1.trans h.code))
    subst hcc
    have hlen : len₂ = len := by rw [hdg] at hd₂; cases hd₂; rfl
    subst hlen
    have hs₂ : s₂ = (({ U with heap := s₂.heap, slotsUsed := s₂.slotsUsed } : State).setVm s₂.vm).setTop { g with pc := g.pc + len₂, stack := v.toList ++ g.stack } := by
      refine e3.trans ?_
      rw [hf₂, State.calling_eq h.top, State.setFrames_setFrames, State.setTop_of_frames _ hr', hr]
      rfl
    have hsame : U.sameButNew ({ U with heap := s₂.heap, slotsUsed := s₂.slotsUsed } : State) L mc ms := by
      refine ⟨?_, q2, q3, q4, q5, q6⟩
      obtain ⟨t, ht, -⟩ := State.frames_cons hr
      show ({ U with heap := s₂.heap, slotsUsed := s₂.slotsUsed } : State) = { U.setFrames U.frames with heap := s₂.heap, slotsUsed := s₂.slotsUsed }
      rw [State.setFrames_self ht]
    subst hg
    refine Or.inl ⟨v, ⟨(({ U with heap := s₂.heap, slotsUsed := s₂.slotsUsed } : State).setVm s₂.vm), Ls ++ L, c0 + mc, s0 + ms⟩,
      ⟨X.admits, X.cas, X.clock, X.frames, X.room, X.hears, X.method, X.code, (X.here.setHeapUsed s₂.heap s₂.slotsUsed).setVm hW'.alike, X.tail, State.WarmedH.trans X.warmed hW', X.limits, X.bytes, X.same.trans (hsame.setVm s.vm)⟩,
      ⟨g, mk, s₂, L, rfl, rfl, hqc, rfl, hL, rfl, rfl⟩, ?_⟩
    show Steps p.tables e below _ ((({ U with heap := s₂.heap, slotsUsed := s₂.slotsUsed } : State).setVm s₂.vm).setTop { g with pc := g.pc + len₂, stack := v.toList ++ g.stack })
    rw [← hs₂]
    exact hsteps
  · obtain ⟨e2, q2, q3, q4, q5, q6⟩ := id hsm
    have e3 : s₂ = ({ (U.calling g mk a).setFrames s₂.frames with heap := s₂.heap, slotsUsed := s₂.slotsUsed } : State).setVm s₂.vm := by
      have : s₂ = ({ s₂ with vm := (U.calling g mk a).vm } : State).setVm s₂.vm := rfl
      rw [e2] at this
      exact this
    have hf₂ : s₂.frames = .throwing q :: .java g :: U.frames.tail := hend
    have hW' : U.WarmedH s₂.vm := hW₂
    have hs₂ : s₂ = ((({ U with heap := s₂.heap, slotsUsed := s₂.slotsUsed } : State).setVm s₂.vm).setTop g).pushFrame (.throwing q) := by
      refine e3.trans ?_
      rw [hf₂, State.calling_eq h.top, State.setFrames_setFrames, State.pushFrame, State.frames_setTop _ hr', State.setTop_of_frames _ hr', State.setFrames_setFrames, hr]
      rfl
    have hsame : U.sameButNew ({ U with heap := s₂.heap, slotsUsed := s₂.slotsUsed } : State) L mc ms := by
      refine ⟨?_, q2, q3, q4, q5, q6⟩
      obtain ⟨t, ht, -⟩ := State.frames_cons hr
      show ({ U with heap := s₂.heap, slotsUsed := s₂.slotsUsed } : State) = { U.setFrames U.frames with heap := s₂.heap, slotsUsed := s₂.slotsUsed }
      rw [State.setFrames_self ht]
    subst hg
    refine Or.inr ⟨q, ⟨(({ U with heap := s₂.heap, slotsUsed := s₂.slotsUsed } : State).setVm s₂.vm), Ls ++ L, c0 + mc, s0 + ms⟩,
      ⟨X.admits, X.cas, X.clock, X.frames, X.room, X.hears, X.method, X.code, (X.here.setHeapUsed s₂.heap s₂.slotsUsed).setVm hW'.alike, X.tail, State.WarmedH.trans X.warmed hW', X.limits, X.bytes, X.same.trans (hsame.setVm s.vm)⟩,
      ⟨g, mk, s₂, L, E, ce, rfl, rfl, hx, hce, hcv, hcl, rfl, hL, rfl, rfl⟩, ?_⟩
    show Steps p.tables e below _ (((({ U with heap := s₂.heap, slotsUsed := s₂.slotsUsed } : State).setVm s₂.vm).setTop g).pushFrame (.throwing q))
    rw [← hs₂]
    exact hsteps
end Payer
section Calls
variable {p : Program} {l : Launch} {e : Env} {R : Room} {s : State} {m : MethodId} {args : Array Value} {below : List Frame} {meth : Method} {c : Code} {T : State} {locs : List Loc} {cells slots : Nat}
theorem vx_callV (X : Stand p l e R s m args below meth c T locs cells slots) (hexec : p.tables.exec = Jvm.exec) {own C : String} {index : Nat} {y : MethodName} {bytes : ByteArray} {maxL : Nat} {ret : Option FieldType}
    (hown : s.vm.findClass own = some m.cls) (hlink : (Cond.methodLink own index y).before args s = true) (hinst : (Cond.instanceMethod y).before args s = true) (hsel : (Cond.selects C y y).before args s = true)
    (hcode : (Cond.code y bytes maxL ret).before args s = true) (hy : y.cls ≠ "java/lang/invoke/MethodHandle" ∧ y.cls ≠ "java/lang/invoke/VarHandle")
    {W9 : Nat} {Pre : Pt → Array Value → Prop} {Post : Pt → Array Value → Option Value → Pt → Prop} {PostX : Pt → Array Value → Addr → Pt → Prop} (hK : vx_Back l R p e below s args y 3 W9 Pre Post PostX)
    {b : Addr} {cellB : Cell} (hcell : T.heap[b]? = some cellB) (hobj : cellB.vm.isStatics = false) (hcls : s.vm.findClass C = some cellB.cls)
    {g : JFrame} (hg : g.method = m) (hsize : g.locals.size = c.maxLocals) {argsL rest : List Value} (hlen : ∀ sig, parseMethodDescriptor y.desc = some sig → argsL.length = sig.parameters.length)
    (hstack : g.stack = argsL.reverse ++ .ref b :: rest) (hW : 2 * g.monitorRoom + (rest.map fun v => v.category).sum ≤ W9) (hdg : decode c.code g.pc = .ok (.invokevirtual index, 3))
    (hpre : ∀ vm₁, s.WarmedH vm₁ → Pre ⟨T.setVm vm₁, locs, cells, slots⟩ (Value.ref b :: argsL).toArray) :
    (∃ (v : Option Value) (vm₁ : Vm) (B : Pt), s.WarmedH vm₁ ∧ Stand p l e R s m args below meth c B.U B.locs B.cells B.slots ∧ Post ⟨T.setVm vm₁, locs, cells, slots⟩ (Value.ref b :: argsL).toArray v B ∧
      ∀ target, Steps p.tables e below (B.U.setTop { g with pc := g.pc + 3, stack := v.toList ++ rest }) target → Steps p.tables e below (T.setTop g) target) ∨
    (∃ (q : Addr) (vm₁ : Vm) (B : Pt), s.WarmedH vm₁ ∧ Stand p l e R s m args below meth c B.U B.locs B.cells B.slots ∧ PostX ⟨T.setVm vm₁, locs, cells, slots⟩ (Value.ref b :: argsL).toArray q B ∧
      Steps p.tables e below (T.setTop g) ((B.U.setTop { g with stack := rest }).pushFrame (.throwing q))) := by
  obtain ⟨mk, methM, hnamed, hmethM, hstM, habM⟩ := Cond.instanceMethod_spec hinst
  obtain ⟨methM', cM, hmethM', -, -, -, -, -, -, hsigM⟩ := Cond.code_spec hnamed hcode
  cases hmethM.symm.trans hmethM'
  obtain ⟨c2, r2, m2, q1, q2, q3, q4, kP, hkP, hkPi⟩ := Cond.selects_spec hsel
  cases hcls.symm.trans q1
  cases (State.methodFound?_of_named hnamed hy).symm.trans q2
  cases hnamed.symm.trans q3
  have hselP : selectMethod e.platform s.vm cellB.cls mk = .method mk := by rw [Launch.admits_selectMethod X.admits]; exact q4
  obtain ⟨vm₁, X₁, hstep₁⟩ := X.invokevirtual hexec hown hlink hnamed hmethM hstM hkP hkPi hy (a := b) (cell := cellB) hcell
    (fun z h => by rw [h] at hobj; cases hobj) hselP hmethM habM hkP hkPi (g := g) hg (argsL := argsL) (rest := rest) (hlen _ hsigM) hstack hdg
  rcases hK m meth c ⟨T.setVm vm₁, locs, cells, slots⟩ { g with stack := rest } (.invokevirtual index) mk (Value.ref b :: argsL).toArray X₁ hg hsize hdg hW (X₁.named hnamed) (hpre vm₁ X₁.warmed) with ⟨v, B, X', hpost, hsteps⟩ | ⟨q, B, X', hpost, hsteps⟩
  · exact Or.inl ⟨v, vm₁, B, X₁.warmed, X', hpost, fun target h => hstep₁ _ fun acts => by rw [doInvoke_state]; exact hsteps.trans h⟩
  · exact Or.inr ⟨q, vm₁, B, X₁.warmed, X', hpost, hstep₁ _ fun acts => by rw [doInvoke_state]; exact hsteps⟩
theorem vx_callS (X : Stand p l e R s m args below meth c T locs cells slots) (hexec : p.tables.exec = Jvm.exec) {own : String} {index : Nat} {y : MethodName} {bytes : ByteArray} {maxL : Nat} {ret : Option FieldType}
    (hown : s.vm.findClass own = some m.cls) (hlink : (Cond.methodLink own index y).before args s = true) (hstat : (Cond.static y).before args s = true) (hinit : (Cond.initialized y.cls).before args s = true)
    (hcode : (Cond.code y bytes maxL ret).before args s = true) (hy : y.cls ≠ "java/lang/invoke/MethodHandle" ∧ y.cls ≠ "java/lang/invoke/VarHandle")
    {W9 : Nat} {Pre : Pt → Array Value → Prop} {Post : Pt → Array Value → Option Value → Pt → Prop} {PostX : Pt → Array Value → Addr → Pt → Prop} (hK : vx_Back l R p e below s args y 3 W9 Pre Post PostX)
    {g : JFrame} (hg : g.method = m) (hsize : g.locals.size = c.maxLocals) {argsL rest : List Value} (hlen : ∀ sig, parseMethodDescriptor y.desc = some sig → argsL.length = sig.parameters.length)
    (hstack : g.stack = argsL.reverse ++ rest) (hW : 2 * g.monitorRoom + (rest.map fun v => v.category).sum ≤ W9) (hdg : decode c.code g.pc = .ok (.invokestatic index, 3))
    (hpre : ∀ vm₁, s.WarmedH vm₁ → Pre ⟨T.setVm vm₁, locs, cells, slots⟩ argsL.toArray) :
    (∃ (v : Option Value) (vm₁ : Vm) (B : Pt), s.WarmedH vm₁ ∧ Stand p l e R s m args below meth c B.U B.locs B.cells B.slots ∧ Post ⟨T.setVm vm₁, locs, cells, slots⟩ argsL.toArray v B ∧
      ∀ target, Steps p.tables e below (B.U.setTop { g with pc := g.pc + 3, stack := v.toList ++ rest }) target → Steps p.tables e below (T.setTop g) target) ∨
    (∃ (q : Addr) (vm₁ : Vm) (B : Pt), s.WarmedH vm₁ ∧ Stand p l e R s m args below meth c B.U B.locs B.cells B.slots ∧ PostX ⟨T.setVm vm₁, locs, cells, slots⟩ argsL.toArray q B ∧
      Steps p.tables e below (T.setTop g) ((B.U.setTop { g with stack := rest }).pushFrame (.throwing q))) := by
  obtain ⟨mk, hnamed⟩ := Cond.code_named hcode
  obtain ⟨methM, cM, hmethM, -, -, -, -, -, -, hsigM⟩ := Cond.code_spec hnamed hcode
  have hstatic : methM.isStatic = true := Cond.static_spec hnamed hmethM hstat
  obtain ⟨kP, hkP, -⟩ := className_of_methodNamed hnamed
  have hinitP : kP.init = .initialized := Cond.initialized_spec (findClass_of_methodNamed hnamed) hkP hinit
  obtain ⟨vm₁, X₁, hstep₁⟩ := X.invokestatic hexec hown hlink hnamed hmethM hstatic hkP hinitP hy (g := g) hg (argsL := argsL) (rest := rest) (hlen _ hsigM) hstack hdg
  rcases hK m meth c ⟨T.setVm vm₁, locs, cells, slots⟩ { g with stack := rest } (.invokestatic index) mk argsL.toArray X₁ hg hsize hdg hW (X₁.named hnamed) (hpre vm₁ X₁.warmed) with ⟨v, B, X', hpost, hsteps⟩ | ⟨q, B, X', hpost, hsteps⟩
  · exact Or.inl ⟨v, vm₁, B, X₁.warmed, X', hpost, fun target h => hstep₁ _ fun acts => by rw [doInvoke_state]; exact hsteps.trans h⟩
  · exact Or.inr ⟨q, vm₁, B, X₁.warmed, X', hpost, hstep₁ _ fun acts => by rw [doInvoke_state]; exact hsteps⟩
end Calls
theorem vx_cls {s : State} {T : State} {vm₁ : Vm} {E : String} {k : ClassId} (hW : s.WarmedH vm₁) (h : (T.setVm vm₁).vm.findClass E = some k) : s.vm.findClass E = some k := by
  have h1 : vm₁.findClass E = some k := h
  rw [hW.alike.findClass] at h1
  exact h1
/-- the method's frame g, with q thrown over it -/
def vx_W (p : Program) (l : Launch) (e : Env) (R : Room) (s : State) (m : MethodId) (args : Array Value) (below : List Frame) (meth : Method) (c : Code) (H : Heap) (locs : List Loc) (cells slots : Nat) (Q : State → Prop) (g : JFrame) (q : Addr) : Prop :=
  ∀ T : State, T.heap = H → Stand p l e R s m args below meth c T locs cells slots → ∃ t, Steps p.tables e below ((T.setTop g).pushFrame (.throwing q)) t ∧ Q t
def vx_Run (p : Program) (l : Launch) (e : Env) (R : Room) (s : State) (m : MethodId) (args : Array Value) (below : List Frame) (meth : Method) (c : Code) (H : Heap) (locs : List Loc) (cells slots mc ms : Nat) (g : JFrame) (rest : List Value) (Qa : State → Outcome → State → Prop) (XC : String → State → State → Prop) (free : Addr → Prop) : Prop :=
  ∀ T : State, T.heap = H → Stand p l e R s m args below meth c T locs cells slots →
    (∃ (v : Option Value) (st₀ t T' : State) (L : List Loc), st₀.heap = H ∧ Stand p l e R s m args below meth c T' (locs ++ L) (cells + mc) (slots + ms) ∧ (∀ q ∈ L, free q.base) ∧ T'.heap = t.heap ∧ T'.vm = t.vm ∧ Qa st₀ (.returned v) t ∧
      Goes p e below T g T' { g with pc := g.pc + 3, stack := v.toList ++ rest }) ∨
    (∃ (q : Addr) (st₀ t T' : State) (L : List Loc) (E : String) (ce : Cell), st₀.heap = H ∧ Stand p l e R s m args below meth c T' (locs ++ L) (cells + mc) (slots + ms) ∧ (∀ z ∈ L, free z.base) ∧ T'.heap = t.heap ∧ T'.vm = t.vm ∧ XC E st₀ t ∧ t.heap[q]? = some ce ∧ ce.vm = .none ∧ s.vm.findClass E = some ce.cls ∧
      Steps p.tables e below (T.setTop g) ((T'.setTop { g with stack := rest }).pushFrame (.throwing q)))
def vx_X {S : Type} (px : S → Prop) (B : String → S → State → Prop) (A : Nat → Prop) : String → State → State → Prop := fun E st t => ∃ u : S, px u ∧ B E u t ∧ va_F A st t
section Runs
variable {p : Program} {l : Launch} {e : Env} {R : Room} {s : State} {m : MethodId} {args : Array Value} {below : List Frame} {meth : Method} {c : Code} {H : Heap} {locs : List Loc} {cells slots : Nat}
variable {y : MethodName} {bytes cc : ByteArray} {maxL nL mc ms n index : Nat} {ret : Option FieldType} {ws : List Cond} {rm : Room} {Pc : Array Value → State → Prop} {Qc : Array Value → State → Outcome → State → Prop} {XC : String → State → State → Prop} {free : Addr → Prop} {Ts : List Cond} {own C : String} {b : Addr} {As rest : List Value} {g : JFrame}
theorem vx_callBack (cb : CallB R s args own index y bytes maxL ret ws rm mc ms n) (hM : vx_Met l y ws rm Pc Qc XC mc ms free) (hbl : FrameBlind Pc) : vx_Back l R p e below s args y 3 8 (PreOf R mc ms Pc) (PostOf Qc mc ms free) (vx_Post XC mc ms free) := by
  obtain ⟨hrc, hrs, hfr, hlo, hws, hcw, -, hini, -⟩ := cb
  exact vx_back (bytes := bytes) (maxL := maxL) (ret := ret) hM hbl hrc hrs hfr hlo hws hcw (fun a' U hW => word_at hW (Or.inl (by first | rfl | simp [Cond.onTables, Cond.keeps, Cond.steady])) hini)
theorem vx_runV (S : CallFix p m c cc nL s args Ts own) (hM : vx_Met l y ws rm Pc Qc XC mc ms free) (cw : CallW R s args own C index y bytes maxL ret ws rm mc ms n) (hp : PreV s H C b Pc As)
    (hg : g.method = m) (hn : As.length = n) (hsize : g.locals.size = nL) (hstack : g.stack = As.reverse ++ .ref b :: rest) (hW : 2 * g.monitorRoom + (rest.map fun v => v.category).sum ≤ 8) (hdg : decode cc g.pc = .ok (.invokevirtual index, 3)) (hf : cells + mc ≤ R.cells ∧ slots + ms ≤ R.slots) :
    vx_Run p l e R s m args below meth c H locs cells slots mc ms g rest (Qc (Value.ref b :: As).toArray) XC free := by
  have hK : vx_Back l R p e below s args y 3 8 (PreOf R mc ms Pc) (PostOf Qc mc ms free) (vx_Post XC mc ms free) := vx_callBack cw.1 hM hp.1
  obtain ⟨⟨-, -, -, -, -, -, hcode, -, hy, hlen, hl⟩, hin, hse⟩ := cw
  obtain ⟨hx, hb, hml, ho, -⟩ := S
  obtain ⟨-, ⟨cellB, hcB, hoB, hclB⟩, hPc⟩ := hp
  intro T hT X
  rcases vx_callV X hx (C := C) (bytes := bytes) (maxL := maxL) (ret := ret) ho hl hin hse hcode hy hK (by rw [hT]; exact hcB) hoB hclB hg (hsize.trans hml.symm) (argsL := As) (rest := rest) (fun sig h => hn.trans (hlen sig h)) hstack hW (by rw [hb]; exact hdg)
    (fun vm₁ hW₁ => ⟨hf.1, hf.2, hPc (T.setVm vm₁) hT hW₁⟩) with ⟨v, vm₁, ⟨U', l2, c2, s2⟩, hW₁, X', ⟨g', mk, t, L, e1, e2, hq, h1, hL, h2, h3⟩, st⟩ | ⟨q, vm₁, ⟨U', l2, c2, s2⟩, hW₁, X', ⟨g', mk, t, L, E, ce, e1, e2, hq, hce, hcv, hcl, h1, hL, h2, h3⟩, st⟩
  · dsimp only [Pt.U, Pt.locs, Pt.cells, Pt.slots] at X' e1 e2 h1 h2 h3 st
    subst h1; subst h2; subst h3
    exact Or.inl ⟨v, (T.setVm vm₁).calling g' mk (Value.ref b :: As).toArray, t, U', L, hT, X', hL, e1, e2, hq, st⟩
  · dsimp only [Pt.U, Pt.locs, Pt.cells, Pt.slots] at X' e1 e2 h1 h2 h3 st hcl
    subst h1; subst h2; subst h3
    exact Or.inr ⟨q, (T.setVm vm₁).calling g' mk (Value.ref b :: As).toArray, t, U', L, E, ce, hT, X', hL, e1, e2, hq, hce, hcv, vx_cls hW₁ hcl, st⟩
theorem vx_runS (S : CallFix p m c cc nL s args Ts own) (hM : vx_Met l y ws rm Pc Qc XC mc ms free) (cw : CallB R s args own index y bytes maxL ret ws rm mc ms n ∧ (Cond.static y).before args s = true) (hp : PreS s H Pc As)
    (hg : g.method = m) (hn : As.length = n) (hsize : g.locals.size = nL) (hstack : g.stack = As.reverse ++ rest) (hW : 2 * g.monitorRoom + (rest.map fun v => v.category).sum ≤ 8) (hdg : decode cc g.pc = .ok (.invokestatic index, 3)) (hf : cells + mc ≤ R.cells ∧ slots + ms ≤ R.slots) :
    vx_Run p l e R s m args below meth c H locs cells slots mc ms g rest (Qc As.toArray) XC free := by
  have hK : vx_Back l R p e below s args y 3 8 (PreOf R mc ms Pc) (PostOf Qc mc ms free) (vx_Post XC mc ms free) := vx_callBack cw.1 hM hp.1
  obtain ⟨⟨-, -, -, -, -, -, hcode, hini, hy, hlen, hl⟩, hstt⟩ := cw
  obtain ⟨hx, hb, hml, ho, -⟩ := S
  intro T hT X
  rcases vx_callS X hx (bytes := bytes) (maxL := maxL) (ret := ret) ho hl hstt hini hcode hy hK hg (hsize.trans hml.symm) (argsL := As) (rest := rest) (fun sig h => hn.trans (hlen sig h)) hstack hW (by rw [hb]; exact hdg)
    (fun vm₁ hW₁ => ⟨hf.1, hf.2, hp.2 (T.setVm vm₁) hT hW₁⟩) with ⟨v, vm₁, ⟨U', l2, c2, s2⟩, hW₁, X', ⟨g', mk, t, L, e1, e2, hq, h1, hL, h2, h3⟩, st⟩ | ⟨q, vm₁, ⟨U', l2, c2, s2⟩, hW₁, X', ⟨g', mk, t, L, E, ce, e1, e2, hq, hce, hcv, hcl, h1, hL, h2, h3⟩, st⟩
  · dsimp only [Pt.U, Pt.locs, Pt.cells, Pt.slots] at X' e1 e2 h1 h2 h3 st
    subst h1; subst h2; subst h3
    exact Or.inl ⟨v, (T.setVm vm₁).calling g' mk As.toArray, t, U', L, hT, X', hL, e1, e2, hq, st⟩
  · dsimp only [Pt.U, Pt.locs, Pt.cells, Pt.slots] at X' e1 e2 h1 h2 h3 st hcl
    subst h1; subst h2; subst h3
    exact Or.inr ⟨q, (T.setVm vm₁).calling g' mk As.toArray, t, U', L, E, ce, hT, X', hL, e1, e2, hq, hce, hcv, vx_cls hW₁ hcl, st⟩
end Runs
section Rows
variable {p : Program} {l : Launch} {e : Env} {R : Room} {s : State} {m : MethodId} {args : Array Value} {below : List Frame} {meth : Method} {c : Code} {H : Heap} {locs : List Loc} {cells slots : Nat} {Q : State → Prop}
variable {mc ms : Nat} {free : Addr → Prop} {A0 A1 : Nat → Prop} {H0 : Heap} {a : Array Value} {pc : Nat} {ls : Array Slot} {st0 rest : List Value}
theorem vx_keep {st₀ t T' : State} {L : List Loc} (h0 : st₀.heap = H) (e1 : T'.heap = t.heap) (hS : va_S A0 H0 H locs) (hA : ∀ q, q < H.size → A1 q → A0 q) (hf : ∀ q, free q → A0 q) (hL : ∀ q ∈ L, free q.base) (hF : va_F A1 st₀ t) :
    H.size ≤ T'.heap.size ∧ (∀ q : Nat, q < H.size → ¬ A1 q → T'.heap[q]? = H[q]?) ∧ va_S A0 H0 T'.heap (locs ++ L) := by
  obtain ⟨hz, hk⟩ := hF
  rw [h0] at hz hk
  exact ⟨by rw [e1]; exact hz, fun q h1 h2 => by rw [e1]; exact hk q h1 h2,
    ⟨Nat.le_trans hS.1 (by rw [e1]; exact hz), fun q h1 h2 => by rw [e1, hk q (Nat.lt_of_lt_of_le h1 hS.1) (fun z => h2 (hA q (Nat.lt_of_lt_of_le h1 hS.1) z))]; exact hS.2.1 q h1 h2, fun q hq => by
      rcases List.mem_append.mp hq with h | h
      · exact hS.2.2 q h
      · exact hf _ (hL q h)⟩⟩
theorem vx_calli {S SX : Type} {post : Int32 → S → Prop} {px : SX → Prop} {B : S → State → Prop} {BX : String → SX → State → Prop} {AX : Nat → Prop} (hr : vx_Run p l e R s m args below meth c H locs cells slots mc ms (F0 m pc ls st0) rest (va_Qi post B A1 a) (vx_X px BX AX) free) (hS : va_S A0 H0 H locs) (hA : ∀ q, q < H.size → A1 q → A0 q) (hf : ∀ q, free q → A0 q) (hAX : ∀ q, q < H.size → AX q → A0 q)
    (kx : ∀ (E : String) (ce : Cell) (q9 : Addr) (u : SX) (t : State) (H1 : Heap) (locs1 : List Loc), t.heap = H1 → s.vm.Alike t.vm → px u → BX E u t → H.size ≤ H1.size → (∀ q : Nat, q < H.size → ¬ AX q → H1[q]? = H[q]?) → va_S A0 H0 H1 locs1 → H1[q9]? = some ce → ce.vm = .none → s.vm.findClass E = some ce.cls → vx_W p l e R s m args below meth c H1 locs1 (cells + mc) (slots + ms) Q (F0 m pc ls rest) q9)
    (kk : ∀ (r : Int32) (u : S) (t : State) (H1 : Heap) (locs1 : List Loc), t.heap = H1 → s.vm.Alike t.vm → post r u → B u t → H.size ≤ H1.size → (∀ q : Nat, q < H.size → ¬ A1 q → H1[q]? = H[q]?) → va_S A0 H0 H1 locs1 → W p l e R s m args below meth c H1 locs1 (cells + mc) (slots + ms) Q (F0 m (pc + 3) ls (.int r :: rest))) : W p l e R s m args below meth c H locs cells slots Q (F0 m pc ls st0) := by
  intro T hT X
  rcases hr T hT X with ⟨v, st₀, t, T', L, h0, X', hL, e1, e2, ⟨⟨r, u, hv, hp, hb⟩, hF⟩, st⟩ | ⟨q, st₀, t, T', L, E, ce, h0, X', hL, e1, e2, ⟨u, hp, hb, hF⟩, hce, hcv, hcl, st⟩
  · cases hv
    obtain ⟨k1, k2, k3⟩ := vx_keep h0 e1 hS hA hf hL hF
    obtain ⟨t2, a1, b1⟩ := kk r u t T'.heap (locs ++ L) e1.symm (by rw [← e2]; exact X'.warmed.alike) hp hb k1 k2 k3 T' rfl X'
    exact ⟨t2, st t2 a1, b1⟩
  · obtain ⟨k1, k2, k3⟩ := vx_keep h0 e1 hS hAX hf hL hF
    obtain ⟨t2, a1, b1⟩ := kx E ce q u t T'.heap (locs ++ L) e1.symm (by rw [← e2]; exact X'.warmed.alike) hp hb k1 k2 k3 (by rw [e1]; exact hce) hcv hcl T' rfl X'
    exact ⟨t2, st.trans a1, b1⟩
theorem vx_calll {S SX : Type} {post : Int64 → S → Prop} {px : SX → Prop} {B : S → State → Prop} {BX : String → SX → State → Prop} {AX : Nat → Prop} (hr : vx_Run p l e R s m args below meth c H locs cells slots mc ms (F0 m pc ls st0) rest (va_Ql post B A1 a) (vx_X px BX AX) free) (hS : va_S A0 H0 H locs) (hA : ∀ q, q < H.size → A1 q → A0 q) (hf : ∀ q, free q → A0 q) (hAX : ∀ q, q < H.size → AX q → A0 q)
    (kx : ∀ (E : String) (ce : Cell) (q9 : Addr) (u : SX) (t : State) (H1 : Heap) (locs1 : List Loc), t.heap = H1 → s.vm.Alike t.vm → px u → BX E u t → H.size ≤ H1.size → (∀ q : Nat, q < H.size → ¬ AX q → H1[q]? = H[q]?) → va_S A0 H0 H1 locs1 → H1[q9]? = some ce → ce.vm = .none → s.vm.findClass E = some ce.cls → vx_W p l e R s m args below meth c H1 locs1 (cells + mc) (slots + ms) Q (F0 m pc ls rest) q9)
    (kk : ∀ (r : Int64) (u : S) (t : State) (H1 : Heap) (locs1 : List Loc), t.heap = H1 → s.vm.Alike t.vm → post r u → B u t → H.size ≤ H1.size → (∀ q : Nat, q < H.size → ¬ A1 q → H1[q]? = H[q]?) → va_S A0 H0 H1 locs1 → W p l e R s m args below meth c H1 locs1 (cells + mc) (slots + ms) Q (F0 m (pc + 3) ls (.long r :: rest))) : W p l e R s m args below meth c H locs cells slots Q (F0 m pc ls st0) := by
  intro T hT X
  rcases hr T hT X with ⟨v, st₀, t, T', L, h0, X', hL, e1, e2, ⟨⟨r, u, hv, hp, hb⟩, hF⟩, st⟩ | ⟨q, st₀, t, T', L, E, ce, h0, X', hL, e1, e2, ⟨u, hp, hb, hF⟩, hce, hcv, hcl, st⟩
  · cases hv
    obtain ⟨k1, k2, k3⟩ := vx_keep h0 e1 hS hA hf hL hF
    obtain ⟨t2, a1, b1⟩ := kk r u t T'.heap (locs ++ L) e1.symm (by rw [← e2]; exact X'.warmed.alike) hp hb k1 k2 k3 T' rfl X'
    exact ⟨t2, st t2 a1, b1⟩
  · obtain ⟨k1, k2, k3⟩ := vx_keep h0 e1 hS hAX hf hL hF
    obtain ⟨t2, a1, b1⟩ := kx E ce q u t T'.heap (locs ++ L) e1.symm (by rw [← e2]; exact X'.warmed.alike) hp hb k1 k2 k3 (by rw [e1]; exact hce) hcv hcl T' rfl X'
    exact ⟨t2, st.trans a1, b1⟩
theorem vx_callf {S SX : Type} {post : UInt32 → S → Prop} {px : SX → Prop} {B : S → State → Prop} {BX : String → SX → State → Prop} {AX : Nat → Prop} (hr : vx_Run p l e R s m args below meth c H locs cells slots mc ms (F0 m pc ls st0) rest (va_Qf post B A1 a) (vx_X px BX AX) free) (hS : va_S A0 H0 H locs) (hA : ∀ q, q < H.size → A1 q → A0 q) (hf : ∀ q, free q → A0 q) (hAX : ∀ q, q < H.size → AX q → A0 q)
    (kx : ∀ (E : String) (ce : Cell) (q9 : Addr) (u : SX) (t : State) (H1 : Heap) (locs1 : List Loc), t.heap = H1 → s.vm.Alike t.vm → px u → BX E u t → H.size ≤ H1.size → (∀ q : Nat, q < H.size → ¬ AX q → H1[q]? = H[q]?) → va_S A0 H0 H1 locs1 → H1[q9]? = some ce → ce.vm = .none → s.vm.findClass E = some ce.cls → vx_W p l e R s m args below meth c H1 locs1 (cells + mc) (slots + ms) Q (F0 m pc ls rest) q9)
    (kk : ∀ (r : UInt32) (u : S) (t : State) (H1 : Heap) (locs1 : List Loc), t.heap = H1 → s.vm.Alike t.vm → post r u → B u t → H.size ≤ H1.size → (∀ q : Nat, q < H.size → ¬ A1 q → H1[q]? = H[q]?) → va_S A0 H0 H1 locs1 → W p l e R s m args below meth c H1 locs1 (cells + mc) (slots + ms) Q (F0 m (pc + 3) ls (.float r :: rest))) : W p l e R s m args below meth c H locs cells slots Q (F0 m pc ls st0) := by
  intro T hT X
  rcases hr T hT X with ⟨v, st₀, t, T', L, h0, X', hL, e1, e2, ⟨⟨r, u, hv, hp, hb⟩, hF⟩, st⟩ | ⟨q, st₀, t, T', L, E, ce, h0, X', hL, e1, e2, ⟨u, hp, hb, hF⟩, hce, hcv, hcl, st⟩
  · cases hv
    obtain ⟨k1, k2, k3⟩ := vx_keep h0 e1 hS hA hf hL hF
    obtain ⟨t2, a1, b1⟩ := kk r u t T'.heap (locs ++ L) e1.symm (by rw [← e2]; exact X'.warmed.alike) hp hb k1 k2 k3 T' rfl X'
    exact ⟨t2, st t2 a1, b1⟩
  · obtain ⟨k1, k2, k3⟩ := vx_keep h0 e1 hS hAX hf hL hF
    obtain ⟨t2, a1, b1⟩ := kx E ce q u t T'.heap (locs ++ L) e1.symm (by rw [← e2]; exact X'.warmed.alike) hp hb k1 k2 k3 (by rw [e1]; exact hce) hcv hcl T' rfl X'
    exact ⟨t2, st.trans a1, b1⟩
theorem vx_calld {S SX : Type} {post : UInt64 → S → Prop} {px : SX → Prop} {B : S → State → Prop} {BX : String → SX → State → Prop} {AX : Nat → Prop} (hr : vx_Run p l e R s m args below meth c H locs cells slots mc ms (F0 m pc ls st0) rest (va_Qd post B A1 a) (vx_X px BX AX) free) (hS : va_S A0 H0 H locs) (hA : ∀ q, q < H.size → A1 q → A0 q) (hf : ∀ q, free q → A0 q) (hAX : ∀ q, q < H.size → AX q → A0 q)
    (kx : ∀ (E : String) (ce : Cell) (q9 : Addr) (u : SX) (t : State) (H1 : Heap) (locs1 : List Loc), t.heap = H1 → s.vm.Alike t.vm → px u → BX E u t → H.size ≤ H1.size → (∀ q : Nat, q < H.size → ¬ AX q → H1[q]? = H[q]?) → va_S A0 H0 H1 locs1 → H1[q9]? = some ce → ce.vm = .none → s.vm.findClass E = some ce.cls → vx_W p l e R s m args below meth c H1 locs1 (cells + mc) (slots + ms) Q (F0 m pc ls rest) q9)
    (kk : ∀ (r : UInt64) (u : S) (t : State) (H1 : Heap) (locs1 : List Loc), t.heap = H1 → s.vm.Alike t.vm → post r u → B u t → H.size ≤ H1.size → (∀ q : Nat, q < H.size → ¬ A1 q → H1[q]? = H[q]?) → va_S A0 H0 H1 locs1 → W p l e R s m args below meth c H1 locs1 (cells + mc) (slots + ms) Q (F0 m (pc + 3) ls (.double r :: rest))) : W p l e R s m args below meth c H locs cells slots Q (F0 m pc ls st0) := by
  intro T hT X
  rcases hr T hT X with ⟨v, st₀, t, T', L, h0, X', hL, e1, e2, ⟨⟨r, u, hv, hp, hb⟩, hF⟩, st⟩ | ⟨q, st₀, t, T', L, E, ce, h0, X', hL, e1, e2, ⟨u, hp, hb, hF⟩, hce, hcv, hcl, st⟩
  · cases hv
    obtain ⟨k1, k2, k3⟩ := vx_keep h0 e1 hS hA hf hL hF
    obtain ⟨t2, a1, b1⟩ := kk r u t T'.heap (locs ++ L) e1.symm (by rw [← e2]; exact X'.warmed.alike) hp hb k1 k2 k3 T' rfl X'
    exact ⟨t2, st t2 a1, b1⟩
  · obtain ⟨k1, k2, k3⟩ := vx_keep h0 e1 hS hAX hf hL hF
    obtain ⟨t2, a1, b1⟩ := kx E ce q u t T'.heap (locs ++ L) e1.symm (by rw [← e2]; exact X'.warmed.alike) hp hb k1 k2 k3 (by rw [e1]; exact hce) hcv hcl T' rfl X'
    exact ⟨t2, st.trans a1, b1⟩
theorem vx_callv {S SX : Type} {post : S → Prop} {px : SX → Prop} {B : S → State → Prop} {BX : String → SX → State → Prop} {AX : Nat → Prop} (hr : vx_Run p l e R s m args below meth c H locs cells slots mc ms (F0 m pc ls st0) rest (va_Qv post B A1 a) (vx_X px BX AX) free) (hS : va_S A0 H0 H locs) (hA : ∀ q, q < H.size → A1 q → A0 q) (hf : ∀ q, free q → A0 q) (hAX : ∀ q, q < H.size → AX q → A0 q)
    (kx : ∀ (E : String) (ce : Cell) (q9 : Addr) (u : SX) (t : State) (H1 : Heap) (locs1 : List Loc), t.heap = H1 → s.vm.Alike t.vm → px u → BX E u t → H.size ≤ H1.size → (∀ q : Nat, q < H.size → ¬ AX q → H1[q]? = H[q]?) → va_S A0 H0 H1 locs1 → H1[q9]? = some ce → ce.vm = .none → s.vm.findClass E = some ce.cls → vx_W p l e R s m args below meth c H1 locs1 (cells + mc) (slots + ms) Q (F0 m pc ls rest) q9)
    (kk : ∀ (u : S) (t : State) (H1 : Heap) (locs1 : List Loc), t.heap = H1 → s.vm.Alike t.vm → post u → B u t → H.size ≤ H1.size → (∀ q : Nat, q < H.size → ¬ A1 q → H1[q]? = H[q]?) → va_S A0 H0 H1 locs1 → W p l e R s m args below meth c H1 locs1 (cells + mc) (slots + ms) Q (F0 m (pc + 3) ls (rest))) : W p l e R s m args below meth c H locs cells slots Q (F0 m pc ls st0) := by
  intro T hT X
  rcases hr T hT X with ⟨v, st₀, t, T', L, h0, X', hL, e1, e2, ⟨⟨u, hv, hp, hb⟩, hF⟩, st⟩ | ⟨q, st₀, t, T', L, E, ce, h0, X', hL, e1, e2, ⟨u, hp, hb, hF⟩, hce, hcv, hcl, st⟩
  · cases hv
    obtain ⟨k1, k2, k3⟩ := vx_keep h0 e1 hS hA hf hL hF
    obtain ⟨t2, a1, b1⟩ := kk u t T'.heap (locs ++ L) e1.symm (by rw [← e2]; exact X'.warmed.alike) hp hb k1 k2 k3 T' rfl X'
    exact ⟨t2, st t2 a1, b1⟩
  · obtain ⟨k1, k2, k3⟩ := vx_keep h0 e1 hS hAX hf hL hF
    obtain ⟨t2, a1, b1⟩ := kx E ce q u t T'.heap (locs ++ L) e1.symm (by rw [← e2]; exact X'.warmed.alike) hp hb k1 k2 k3 (by rw [e1]; exact hce) hcv hcl T' rfl X'
    exact ⟨t2, st.trans a1, b1⟩
/-- caught by the row x of this method's table; the rows ahead don't take it -/
theorem vx_catch {own name : String} {E : String} {ce : Cell} {q : Addr} (hown : s.vm.findClass own = some m.cls) (pre : List ExceptionTableEntry) (x : ExceptionTableEntry) (suf : List ExceptionTableEntry) (hsplit : c.exceptionTable.toList = pre ++ x :: suf)
    (hpass : ∀ z ∈ pre, covers z pc = false ∨ (z.catchType ≠ 0 ∧ ∃ nm : String, (Cond.classLink own z.catchType nm).before args s = true ∧ va_Nc E nm s)) (hx : covers x pc = true) (h0 : x.catchType ≠ 0)
    (hlink : (Cond.classLink own x.catchType name).before args s = true) (hcast : (Cond.castable E name).before args s = true) (hcell : H[q]? = some ce) (hv : ce.vm = .none) (hcl : s.vm.findClass E = some ce.cls)
    (kk : W p l e R s m args below meth c H locs cells slots Q (F0 m x.handlerPc ls [.ref q])) : vx_W p l e R s m args below meth c H locs cells slots Q (F0 m pc ls rest) q := by
  intro T hT X
  have hpl : e.platform.magicAccessors = ({} : Platform).magicAccessors := by rw [X.admits.platform]
  obtain ⟨c3, c4, hc3, hc4, hasg⟩ := Cond.castable_spec hcast
  cases Option.some.inj (hc3.symm.trans hcl)
  obtain ⟨c5, hc5, hcl5⟩ := Cond.classLink_spec hown hlink e.platform hpl
  cases Option.some.inj (hc4.symm.trans hc5)
  obtain ⟨vm', X', st⟩ := X.thenCaughtThrough q (g := F0 m pc ls rest) rfl (Steps.refl _) (by rw [hT]; exact hcell) (by rw [hv]; rfl) (by obtain ⟨k9, h9, -⟩ := Vm.findClass_spec hcl; exact ⟨k9, h9⟩) pre x suf hsplit
    (fun z hz => by
      rcases hpass z hz with h | ⟨hz0, nm, hl1, hn1⟩
      · exact Or.inl h
      · obtain ⟨c6, hc6, hcl6⟩ := Cond.classLink_spec hown hl1 e.platform hpl
        obtain ⟨a8, b8, h1, h2, h3⟩ := hn1
        cases Option.some.inj (h1.symm.trans hcl)
        cases Option.some.inj (h2.symm.trans hc6)
        exact Or.inr ⟨hz0, _, hcl6, h3⟩) hx (Or.inr ⟨h0, c4, hcl5, hasg⟩)
  obtain ⟨t, a1, b1⟩ := kk (T.setVm vm') hT X'
  exact ⟨t, st.trans a1, b1⟩
end Rows
section Ends
variable {p : Program} {l : Launch} {e : Env} {R : Room} {s : State} {m : MethodId} {args : Array Value} {below : List Frame} {meth : Method} {c : Code} {H : Heap} {locs : List Loc} {cells slots : Nat} {Q : State → Prop}
variable {mc ms : Nat} {free : Addr → Prop} {A0 A1 : Nat → Prop} {H0 : Heap} {a : Array Value} {ls : Array Slot} {st0 rest : List Value}
variable {Qc : Array Value → State → Outcome → State → Prop} {XC : String → State → State → Prop}
/-- what a body that may throw owes at its end -/
def vx_MQ (below : List Frame) (Qc : Array Value → State → Outcome → State → Prop) (XC : String → State → State → Prop) (a : Array Value) (s : State) (mc ms : Nat) (free : Addr → Prop) : State → Prop := fun t =>
  ∃ o, t.status = .running ∧ Ended t below o ∧ vx_Q Qc XC mc ms free a s o t
theorem vx_ret {g : JFrame} {mc ms : Nat} (k : W p l e R s m args below meth c H locs cells slots (MQ below Qc args s mc ms free) g) : W p l e R s m args below meth c H locs cells slots (vx_MQ below Qc XC args s mc ms free) g := by
  intro T hT X
  obtain ⟨t, a1, o, b1, b2, b3, b4⟩ := k T hT X
  exact ⟨t, a1, o, b1, b2, Or.inl ⟨b3, b4⟩⟩
/-- not caught here: it goes on to the caller -/
theorem vx_widen {g : JFrame} {q : Addr} {k n : Nat} (h1 : cells ≤ k) (h2 : slots ≤ n) (kk : vx_W p l e R s m args below meth c H locs k n Q g q) : vx_W p l e R s m args below meth c H locs cells slots Q g q := fun T hT X => kk T hT (stand_widen X h1 h2)
theorem vx_out {pc : Nat} {E : String} {ce : Cell} {q : Addr} {mc ms : Nat} (hout : ∀ x ∈ c.exceptionTable.toList, covers x pc = false) (hlocks : meth.locks = false) (hcell : H[q]? = some ce) (hv : ce.vm = .none) (hcl : s.vm.findClass E = some ce.cls)
    (hx : ∀ t : State, t.heap = H → s.vm.Alike t.vm → XC E s t) (hf : ∀ z ∈ locs, free z.base) (hc : cells ≤ mc) (hs : slots ≤ ms) :
    vx_W p l e R s m args below meth c H locs cells slots (vx_MQ below Qc XC args s mc ms free) (F0 m pc ls rest) q := by
  intro T hT X
  obtain ⟨st1, hrun, hend, hW, hsm⟩ := X.leaveThrown q (g := F0 m pc ls rest) rfl rfl rfl hout hlocks
  have hcell9 : (T.setFrames (.throwing q :: below)).heap[q]? = some ce := by
    show T.heap[q]? = some ce
    rw [hT]; exact hcell
  exact ⟨_, st1, .threw q, hrun, hend, Or.inr ⟨q, rfl, E, ce, locs, hx _ hT hW.alike, hcell9, hv, hcl, hW, hsm.mono hc hs, hf⟩⟩
theorem vx_frame {U : State} {k n : Nat} (h : s.sameButNew ({ U with vm := s.vm } : State) locs k n) : s.heap.size ≤ U.heap.size ∧ ∀ q : Nat, q < s.heap.size → (∀ z ∈ locs, z.base ≠ q) → U.heap[q]? = s.heap[q]? := by
  obtain ⟨-, h2, -, -, -, h6⟩ := h
  refine ⟨h2, fun q hq hz => ?_⟩
  obtain ⟨c9, e1, e2, e3, e4⟩ := h6 q _ (Array.getElem?_eq_getElem hq)
  have hs : c9.slots = (s.heap[q]).slots := Array.ext_getElem? fun i => e4 i fun hm => hz _ hm rfl
  have h9 : c9 = s.heap[q] := by
    rw [hs] at e2
    exact e2
  have e5 : U.heap[q]? = some c9 := e1
  rw [e5, h9, Array.getElem?_eq_getElem hq]
/-- the words of a throw but the four that speak of the heap -/
def vx_no (w : Cond) : Bool := decide (w ≠ .isRef (.static Bundle.tN "UNASSIGNED_STACK" Bundle.steD)) && decide (w ≠ .isRef (.static Bundle.tN "SUPPRESSED_SENTINEL" Bundle.listD)) && decide (w ≠ .laysStatic Bundle.tN "UNASSIGNED_STACK" Bundle.steD) && decide (w ≠ .laysStatic Bundle.tN "SUPPRESSED_SENTINEL" Bundle.listD)
def vx_at0 (own : String) (ic : Nat) (X : String) (names : List String) : List Cond := (Bundle.ownAtoms0 own ic X names).filter vx_no
def vx_atS (own : String) (ic : Nat) (X : String) (names : List String) : List Cond := (Bundle.ownAtoms own ic X names).filter vx_no
/-- a word that the tables alone decide, or a good one -/
def vx_ot (w : Cond) : Bool := w.onTables || goodWord w
theorem vx_ot_at {args a' : Array Value} {s U : State} {w : Cond} (hW : s.WarmedH U.vm) (hvm : s.vm = U.vm) (hg : vx_ot w = true) (h : w.before args s = true) : w.before a' U = true := by
  simp only [vx_ot, Bool.or_eq_true] at hg
  rcases hg with hg | hg
  · exact va_tabs hg hvm h
  · exact word_at hW (good_of_word hg) h
/-- a list's words: the good ones out of the method's own list, the others by premises of their own -/
theorem vx_hat {args : Array Value} {s : State} {L B : List Cond} (h1 : ∀ w ∈ L.filter goodWord, w.before args s = true) (h2 : ∀ w ∈ L.filter (fun w => !goodWord w), w ∈ B) (h3 : ∀ w ∈ B, w.before args s = true) : ∀ w ∈ L, w.before args s = true := by
  intro w hw
  by_cases g : goodWord w = true
  · exact h1 w (List.mem_filter.mpr ⟨hw, g⟩)
  · refine h3 w (h2 w (List.mem_filter.mpr ⟨hw, ?_⟩))
    show (!goodWord w) = true
    cases hgw : goodWord w
    · rfl
    · exact absurd hgw g
theorem vx_c {args : Array Value} {s : State} {w : Cond} {B : List Cond} (h : w.before args s = true) (t : ∀ w ∈ B, w.before args s = true) : ∀ w' ∈ w :: B, w'.before args s = true := fun w' h' => (List.mem_cons.mp h').elim (fun e => by rw [e]; exact h) (t w')
theorem vx_n {args : Array Value} {s : State} : ∀ w ∈ ([] : List Cond), w.before args s = true := fun _ h => nomatch h
theorem vx_own {args : Array Value} {s : State} {L : List Cond} (h1 : ∀ w ∈ L.filter vx_no, w.before args s = true)
    (hU : (Cond.isRef (.static Bundle.tN "UNASSIGNED_STACK" Bundle.steD)).before args s = true) (hN : (Cond.isRef (.static Bundle.tN "SUPPRESSED_SENTINEL" Bundle.listD)).before args s = true)
    (lU : (Cond.laysStatic Bundle.tN "UNASSIGNED_STACK" Bundle.steD).before args s = true) (lN : (Cond.laysStatic Bundle.tN "SUPPRESSED_SENTINEL" Bundle.listD).before args s = true) : ∀ w ∈ L, w.before args s = true := by
  intro w hw
  by_cases e1 : w = .isRef (.static Bundle.tN "UNASSIGNED_STACK" Bundle.steD)
  · rw [e1]; exact hU
  · by_cases e2 : w = .isRef (.static Bundle.tN "SUPPRESSED_SENTINEL" Bundle.listD)
    · rw [e2]; exact hN
    · by_cases e3 : w = .laysStatic Bundle.tN "UNASSIGNED_STACK" Bundle.steD
      · rw [e3]; exact lU
      · by_cases e4 : w = .laysStatic Bundle.tN "SUPPRESSED_SENTINEL" Bundle.listD
        · rw [e4]; exact lN
        · exact h1 w (List.mem_filter.mpr ⟨hw, by unfold vx_no; rw [decide_eq_true e1, decide_eq_true e2, decide_eq_true e3, decide_eq_true e4]; rfl⟩)
/-- where a static field lies, its class's statics cell in H -/
def vx_L (C n d : String) (A : Nat → Prop) (U : State) (H : Heap) : Prop := ∃ (c : ClassId) (k : Class) (i : Nat) (f : Field) (a : Nat) (cell : Cell), U.vm.findClass C = some c ∧ U.fieldFound? C n d = some (c, k, i, f) ∧ f.isStatic = true ∧ k.statics = some a ∧ H[a]? = some cell ∧ cell.vm.isStatics = true ∧ cell.cls = c ∧ f.slot < cell.slots.size ∧ k.staticTypes[f.slot]? = some f.type ∧ ¬ A a
theorem vx_L.moved {C n d : String} {A : Nat → Prop} {u U : State} {H : Heap} (hvm : u.vm.Alike U.vm) (h : vx_L C n d A u H) : vx_L C n d A U H := by
  obtain ⟨c, k, i, f, a, cell, h1, h2, h3, h4, h5, h6, h7, h8, h9, h10⟩ := h
  obtain ⟨k', hi', he⟩ := State.fieldFound?_setVm hvm h2
  exact ⟨c, k', i, f, a, cell, by rw [hvm.findClass]; exact h1, hi', h3, by rw [he]; exact h4, h5, h6, h7, h8, by rw [he]; exact h9, h10⟩
theorem vx_L.kept {C n d : String} {A : Nat → Prop} {U : State} {H H1 : Heap} (h : vx_L C n d A U H) (hq : ∀ a : Nat, a < H.size → ¬ A a → H1[a]? = H[a]?) : vx_L C n d A U H1 := by
  obtain ⟨c, k, i, f, a, cell, h1, h2, h3, h4, h5, h6, h7, h8, h9, h10⟩ := h
  exact ⟨c, k, i, f, a, cell, h1, h2, h3, h4, by rw [hq a (Array.getElem?_eq_some_iff.mp h5).1 h10]; exact h5, h6, h7, h8, h9, h10⟩
theorem vx_L.narrow {C n d : String} {A B : Nat → Prop} {U : State} {H : Heap} (h : vx_L C n d A U H) (hAB : ∀ q, B q → A q) : vx_L C n d B U H := by
  obtain ⟨c, k, i, f, a, cell, h1, h2, h3, h4, h5, h6, h7, h8, h9, h10⟩ := h
  exact ⟨c, k, i, f, a, cell, h1, h2, h3, h4, h5, h6, h7, h8, h9, fun z => h10 (hAB _ z)⟩
theorem vx_L.word {C n d : String} {A : Nat → Prop} {s : State} {args : Array Value} (h : vx_L C n d A s s.heap) : (Cond.laysStatic C n d).before args s = true := by
  obtain ⟨c, k, i, f, a, cell, h1, h2, h3, h4, h5, h6, h7, h8, h9, -⟩ := h
  show (Cond.laysStatic C n d).holds args s none s [] = true
  exact Cond.laysStatic_of h1 h2 h3 h4 h5 h6 h7 h8 h9
/-- .. and what it holds: null or some reference -/
def vx_Zq (C n d : String) (A : Nat → Prop) (U : State) (H : Heap) : Prop := va_Zq C n d A U H ∧ vx_L C n d A U H
theorem vx_Zq.moved {C n d : String} {A : Nat → Prop} {u U : State} {H : Heap} (hvm : u.vm.Alike U.vm) (h : vx_Zq C n d A u H) : vx_Zq C n d A U H := ⟨va_Zq.moved hvm h.1, vx_L.moved hvm h.2⟩
theorem vx_Zq.kept {C n d : String} {A : Nat → Prop} {U : State} {H H1 : Heap} (h : vx_Zq C n d A U H) (hq : ∀ a : Nat, a < H.size → ¬ A a → H1[a]? = H[a]?) : vx_Zq C n d A U H1 := ⟨va_Zq.kept h.1 hq, vx_L.kept h.2 hq⟩
theorem vx_Zq.narrow {C n d : String} {A B : Nat → Prop} {U : State} {H : Heap} (h : vx_Zq C n d A U H) (hAB : ∀ q, B q → A q) : vx_Zq C n d B U H := ⟨va_Zq.narrow h.1 hAB, vx_L.narrow h.2 hAB⟩
theorem vx_Zqof {args : Array Value} {s : State} {C n d : String} {A : Nat → Prop} (hl : (Cond.laysStatic C n d).before args s = true) (hini : (Cond.initialized C).before args s = true) (h : (Cond.isRef (.static C n d)).before args s = true) (hA : ∀ a : Nat, a < s.heap.size → ¬ A a) : vx_Zq C n d A s s.heap := by
  refine ⟨va_Zqof hl hini h hA, ?_⟩
  obtain ⟨c, k, i, f, a, cell, h1, h2, h3, h4, h5, h6, h7, h8, h9⟩ := Cond.laysStatic_spec hl
  exact ⟨c, k, i, f, a, cell, h1, h2, h3, h4, h5, h6, h7, h8, h9, hA a (Array.getElem?_eq_some_iff.mp h5).1⟩
theorem vx_isRef {C n d : String} {v : Value} {A : Nat → Prop} {s : State} {args : Array Value} (h : va_Z C n d v A s s.heap) (hv : v.isRef = true) : (Cond.isRef (.static C n d)).before args s = true := by
  obtain ⟨cf, kf, fi, f, a, cell, h1, h2, h3, h4, h5, h6, h7, -⟩ := h
  have he : (Term.static C n d).eval args s none [] s = some v := by
    simp [Term.eval, State.fieldNamed?, h1, h2, h4, h5, h6, h7]
  simp only [Cond.before, Cond.holds, Cond.value, he]
  cases v <;> simp_all [Value.isRef]
theorem vx_isRefq {C n d : String} {A : Nat → Prop} {s : State} {args : Array Value} (h : va_Zq C n d A s s.heap) : (Cond.isRef (.static C n d)).before args s = true := by
  rcases h with h | ⟨t, h⟩
  · exact vx_isRef h rfl
  · exact vx_isRef h rfl
/-- the same frame, seen from here: as if the method were called anew in this heap -/
theorem vx_rebase {T : State} (X : Stand p l e R s m args below meth c T locs cells slots) {R' : Room} (hf : R'.frames ≤ R.frames) (hl : R'.locals ≤ R.locals) (hc : cells + R'.cells ≤ R.cells) (hs : slots + R'.slots ≤ R.slots) :
    Stand p l e R' ((T.setVm s.vm).setFrames (.invoking m args :: below)) m args below meth c T [] 0 0 := by
  have htop : (T.setVm s.vm).topJava?.isSome := X.here.top
  have hF : ((T.setVm s.vm).setFrames (.invoking m args :: below)).frames = .invoking m args :: below := State.frames_setFrames _ (State.cur_lt_of_top htop)
  obtain ⟨g₀, hg0⟩ := Option.isSome_iff_exists.mp htop
  obtain ⟨r, hr⟩ := State.topJava?_eq_some.mp hg0
  have hl9 : e.platform.stackLimits (T.setVm s.vm).me = e.platform.stackLimits s.me := X.limits
  have hb9 : (T.setVm s.vm).me.stackBytes = s.me.stackBytes := X.bytes
  refine ⟨X.admits, X.cas, X.clock, hF, ?_, X.hears, X.method, X.code, X.here, X.tail, X.warmed, ?_, ?_, ?_⟩
  · have h := X.room
    have hU : ((T.setVm s.vm).setFrames (.invoking m args :: below)).localsInUse = s.localsInUse := by
      rw [State.localsInUse_invoking hF (meth := meth) (c := c) X.method X.code, State.localsInUse_invoking X.frames X.method X.code]
    simp only [State.hasRoom, Bool.and_eq_true, decide_eq_true_eq] at h ⊢
    obtain ⟨⟨⟨⟨h1, h2, h3, h4, h5, h6⟩, h7⟩, h8⟩, h9⟩ := h
    rw [X.frames, List.length_cons] at h2 h3
    have q1 := X.heapSize
    have q2 := X.used
    simp only [hF, hU, List.length_cons, State.stackLimits_setFrames, State.stackBytes_setFrames, hl9, hb9]
    refine ⟨⟨⟨⟨by omega, by omega, by omega, by omega, by omega, h6⟩, ?_⟩, ?_⟩, X.book⟩
    · show T.heap.size + R'.cells ≤ e.platform.maxCells
      omega
    · show T.slotsUsed + R'.slots ≤ e.platform.maxSlots
      omega
  · rw [State.stackLimits_setFrames]; rfl
  · rw [State.stackBytes_setFrames]; rfl
  · refine ⟨?_, Nat.le_refl _, Nat.le_refl _, ?_, ?_, fun a c9 h9 => ⟨c9, h9, rfl, rfl, fun _ _ => rfl⟩⟩
    · obtain ⟨t, ht, -⟩ := State.frames_cons hr
      show T.setVm s.vm = { ((T.setVm s.vm).setFrames (.invoking m args :: below)).setFrames (T.setVm s.vm).frames with heap := T.heap, slotsUsed := T.slotsUsed }
      rw [State.setFrames_setFrames, State.setFrames_self ht]
      rfl
    · show T.slotsUsed = T.slotsUsed + ((T.heap.toList.drop T.heap.size).map (·.slots.size)).sum
      rw [List.drop_eq_nil_of_le (Nat.le_of_eq Array.length_toList)]
      rfl
    · show ((T.heap.toList.drop T.heap.size).map (·.slots.size)).sum ≤ 0
      rw [List.drop_eq_nil_of_le (Nat.le_of_eq Array.length_toList)]
      exact Nat.le_refl _
/-- 'throw new E()': new; dup; invokespecial; athrow -/
theorem vx_throw0 {cc : ByteArray} {pc : Nat} (hexec : p.tables.exec = Jvm.exec) (hb : c.code = cc) (hl : l.stackTraces = false) {own cls : String} {names : List String} {ik ic mc ms : Nat} {A : Nat → Prop}
    (hown : s.vm.findClass own = some m.cls) (hcls : Bundle.fit cls = true) (hnames : ∀ n ∈ names, Bundle.fit n = true)
    (hk : (Cond.classLink own ik cls).before args s = true) (hini : (Cond.initialized cls).before args s = true) (hat : ∀ w ∈ vx_at0 own ic cls names, w.before args s = true)
    (hgood : ∀ w ∈ Cond.classLink own ik cls :: Cond.initialized cls :: vx_at0 own ic cls names, vx_ot w = true)
    (hU : vx_Zq Bundle.tN "UNASSIGNED_STACK" Bundle.steD A s s.heap) (hN : vx_Zq Bundle.tN "SUPPRESSED_SENTINEL" Bundle.listD A s s.heap) (hS : va_S A s.heap H locs) (hsize : ls.size = c.maxLocals)
    (d0 : decode cc pc = .ok (.new ik, 3)) (d3 : decode cc (pc + 3) = .ok (.dup, 1)) (d4 : decode cc (pc + 4) = .ok (.invokespecial ic, 3)) (d7 : decode cc (pc + 7) = .ok (.athrow, 1))
    (hout : ∀ x ∈ c.exceptionTable.toList, covers x (pc + 7) = false)
    (hRframes : names.length + 3 < R.frames) (hRlocals : (rest.map fun v => v.category).sum + (13 * (names.length + 1) + 42) ≤ R.locals) (hRcells : cells + 1 ≤ R.cells) (hRslots : slots + 6 ≤ R.slots) (hlocks : meth.locks = false)
    (hx : ∀ t : State, s.vm.Alike t.vm → H.size ≤ t.heap.size → (∀ q : Nat, q < H.size → t.heap[q]? = H[q]?) → XC cls s t)
    (hf : ∀ z ∈ locs, free z.base) (hc : cells + 1 ≤ mc) (hs : slots + 6 ≤ ms) :
    W p l e R s m args below meth c H locs cells slots (vx_MQ below Qc XC args s mc ms free) (F0 m pc ls rest) := by
  intro T hT X
  have htr : e.platform.stackTraces = false := (show e.platform.stackTraces = l.stackTraces by rw [X.admits.platform]).trans hl
  have Y := vx_rebase X (R' := { frames := R.frames, locals := R.locals, cells := 1, slots := 6 }) (Nat.le_refl _) (Nat.le_refl _) hRcells hRslots
  obtain ⟨s', hA⟩ : ∃ z, z = (T.setVm s.vm).setFrames (.invoking m args :: below) := ⟨_, rfl⟩
  rw [← hA] at Y
  have hvm : s'.vm = s.vm := by rw [hA]; rfl
  have hhp : s'.heap = H := by rw [hA]; exact hT
  have hW0 : s.WarmedH s'.vm := by rw [hvm]; exact State.WarmedH.refl s
  have hat' : ∀ w ∈ vx_at0 own ic cls names, w.before args s' = true := fun w hw => vx_ot_at hW0 hvm.symm (hgood w (List.mem_cons_of_mem _ (List.mem_cons_of_mem _ hw))) (hat w hw)
  have hk' : (Cond.classLink own ik cls).before args s' = true := vx_ot_at hW0 hvm.symm (hgood _ List.mem_cons_self) hk
  have hini' : (Cond.initialized cls).before args s' = true := vx_ot_at hW0 hvm.symm (hgood _ (List.mem_cons_of_mem _ List.mem_cons_self)) hini
  have hU' : vx_Zq Bundle.tN "UNASSIGNED_STACK" Bundle.steD A s' s'.heap := by rw [hhp]; exact vx_Zq.moved hW0.alike (hU.kept hS.2.1)
  have hN' : vx_Zq Bundle.tN "SUPPRESSED_SENTINEL" Bundle.listD A s' s'.heap := by rw [hhp]; exact vx_Zq.moved hW0.alike (hN.kept hS.2.1)
  have h : ∀ w ∈ Bundle.ownAtoms0 own ic cls names, w.before args s' = true := vx_own hat' (vx_isRefq hU'.1) (vx_isRefq hN'.1) hU'.2.word hN'.2.word
  have hown' : s'.vm.findClass own = some m.cls := by rw [hvm]; exact hown
  have hins : (Cond.instantiable cls 6).before args s' = true := h _ (by simp [Bundle.ownAtoms0])
  obtain ⟨vm₁, cX, kX, hfX, hkX, -, -, X₁, st1⟩ := Y.newCold hexec (own := own) (C := cls) (index := ik) (n := 6) hown' hk' hins hini'
    (g := F0 m pc ls rest) rfl (by rw [hb]; exact d0) (Nat.le_refl _) (Nat.le_refl _)
  generalize hT1 : (T.setVm vm₁).pushCell { cls := cX, slots := kX.instanceTypes.map defaultValue, vm := .none } = T1 at X₁ st1
  have hcat : (Value.ref T.heap.size).category = 1 := rfl
  have hcellA : T1.heap[T.heap.size]? = some (freshCell cX kX) := by rw [← hT1]; exact State.heap_pushCell_size _ _
  have d3' : decode c.code (pc + 3) = .ok (.dup, 1) := by rw [hb]; exact d3
  obtain ⟨U, hsteps, hrun, hend, hW, hsame, ce, hce, hO⟩ := X₁.ctorThrow0 hexec htr (own := own) (cls := cls) (names := names) (ic := ic) hown' hcls hnames h (fun x hx => nomatch hx) hfX hkX hcellA (by rw [hhp, hT]; exact Nat.le_refl _)
    (g := { method := m, pc := pc + 4, locals := ls, stack := .ref T.heap.size :: .ref T.heap.size :: rest, locked := none }) rfl hsize rfl rfl (rest := rest) rfl
    (by rw [hb]; exact d4) (by rw [hb]; exact d7) hout hRframes (by simp only [List.map_cons, List.sum_cons, hcat]; omega) hlocks
  obtain ⟨f1, f2⟩ := vx_frame hsame
  rw [hhp] at f1 f2
  have hWs : s.WarmedH U.vm := State.WarmedH.trans hW0 hW
  have hcl : s.vm.findClass cls = some ce.cls := by
    have h9 := hO.cls
    rw [hvm] at h9
    exact h9
  have hall : s.sameButNew ({ U with vm := s.vm } : State) locs mc ms := by
    subst hA
    obtain ⟨e1, e2⟩ := hsame
    rw [State.setFrames_setFrames] at e1
    have h2 : (T.setVm s.vm).sameButNew ({ U with vm := s.vm } : State) [] (0 + 1) (0 + 6) := ⟨e1, e2⟩
    have h3 := X.same.trans h2
    rw [List.append_nil] at h3
    exact h3.mono hc hs
  refine ⟨U, ?_, .threw T.heap.size, hrun, hend, Or.inr ⟨T.heap.size, rfl, cls, ce, locs, hx U hWs.alike f1 (fun q hq => f2 q hq (fun z hz => nomatch hz)), hce, hO.vm, hcl, hWs, hall, hf⟩⟩
  refine st1 _ ?_
  show Steps p.tables e below (T1.setTop { method := m, pc := pc + 3, locals := ls, stack := .ref T.heap.size :: rest, locked := none }) _
  jvm_step X₁.here [X₁.here.top, hexec, d3', Value.category]
  exact hsteps
/-- 'throw new E("text")': new; dup; ldc; invokespecial; athrow -/
theorem vx_throwS {cc : ByteArray} {pc : Nat} (hexec : p.tables.exec = Jvm.exec) (hb : c.code = cc) (hl : l.stackTraces = false) {own cls text : String} {names : List String} {ik is ic mc ms sa : Nat} {A : Nat → Prop}
    (hown : s.vm.findClass own = some m.cls) (hcls : Bundle.fit cls = true) (hnames : ∀ n ∈ names, Bundle.fit n = true)
    (hk : (Cond.classLink own ik cls).before args s = true) (hini : (Cond.initialized cls).before args s = true) (hstr : vk_R own is text sa s) (hat : ∀ w ∈ vx_atS own ic cls names, w.before args s = true)
    (hgood : ∀ w ∈ Cond.classLink own ik cls :: Cond.initialized cls :: vx_atS own ic cls names, vx_ot w = true)
    (hU : vx_Zq Bundle.tN "UNASSIGNED_STACK" Bundle.steD A s s.heap) (hN : vx_Zq Bundle.tN "SUPPRESSED_SENTINEL" Bundle.listD A s s.heap) (hS : va_S A s.heap H locs) (hsize : ls.size = c.maxLocals)
    (d0 : decode cc pc = .ok (.new ik, 3)) (d3 : decode cc (pc + 3) = .ok (.dup, 1)) (d4 : decode cc (pc + 4) = .ok (.ldc is, 2)) (d6 : decode cc (pc + 6) = .ok (.invokespecial ic, 3)) (d9 : decode cc (pc + 9) = .ok (.athrow, 1))
    (hout : ∀ x ∈ c.exceptionTable.toList, covers x (pc + 9) = false)
    (hRframes : names.length + 3 < R.frames) (hRlocals : (rest.map fun v => v.category).sum + (13 * (names.length + 1) + 43) ≤ R.locals) (hRcells : cells + 1 ≤ R.cells) (hRslots : slots + 6 ≤ R.slots) (hlocks : meth.locks = false)
    (hx : ∀ t : State, s.vm.Alike t.vm → H.size ≤ t.heap.size → (∀ q : Nat, q < H.size → t.heap[q]? = H[q]?) → XC cls s t)
    (hf : ∀ z ∈ locs, free z.base) (hc : cells + 1 ≤ mc) (hs : slots + 6 ≤ ms) :
    W p l e R s m args below meth c H locs cells slots (vx_MQ below Qc XC args s mc ms free) (F0 m pc ls rest) := by
  intro T hT X
  have htr : e.platform.stackTraces = false := (show e.platform.stackTraces = l.stackTraces by rw [X.admits.platform]).trans hl
  have Y := vx_rebase X (R' := { frames := R.frames, locals := R.locals, cells := 1, slots := 6 }) (Nat.le_refl _) (Nat.le_refl _) hRcells hRslots
  obtain ⟨s', hA⟩ : ∃ z, z = (T.setVm s.vm).setFrames (.invoking m args :: below) := ⟨_, rfl⟩
  rw [← hA] at Y
  have hvm : s'.vm = s.vm := by rw [hA]; rfl
  have hhp : s'.heap = H := by rw [hA]; exact hT
  have hW0 : s.WarmedH s'.vm := by rw [hvm]; exact State.WarmedH.refl s
  have hat' : ∀ w ∈ vx_atS own ic cls names, w.before args s' = true := fun w hw => vx_ot_at hW0 hvm.symm (hgood w (List.mem_cons_of_mem _ (List.mem_cons_of_mem _ hw))) (hat w hw)
  have hk' : (Cond.classLink own ik cls).before args s' = true := vx_ot_at hW0 hvm.symm (hgood _ List.mem_cons_self) hk
  have hini' : (Cond.initialized cls).before args s' = true := vx_ot_at hW0 hvm.symm (hgood _ (List.mem_cons_of_mem _ List.mem_cons_self)) hini
  have hU' : vx_Zq Bundle.tN "UNASSIGNED_STACK" Bundle.steD A s' s'.heap := by rw [hhp]; exact vx_Zq.moved hW0.alike (hU.kept hS.2.1)
  have hN' : vx_Zq Bundle.tN "SUPPRESSED_SENTINEL" Bundle.listD A s' s'.heap := by rw [hhp]; exact vx_Zq.moved hW0.alike (hN.kept hS.2.1)
  have h : ∀ w ∈ Bundle.ownAtoms own ic cls names, w.before args s' = true := vx_own hat' (vx_isRefq hU'.1) (vx_isRefq hN'.1) hU'.2.word hN'.2.word
  have hown' : s'.vm.findClass own = some m.cls := by rw [hvm]; exact hown
  have hins : (Cond.instantiable cls 6).before args s' = true := h _ (by simp [Bundle.ownAtoms])
  obtain ⟨vm₁, cX, kX, hfX, hkX, -, -, X₁, st1⟩ := Y.newCold hexec (own := own) (C := cls) (index := ik) (n := 6) hown' hk' hins hini'
    (g := F0 m pc ls rest) rfl (by rw [hb]; exact d0) (Nat.le_refl _) (Nat.le_refl _)
  generalize hT1 : (T.setVm vm₁).pushCell { cls := cX, slots := kX.instanceTypes.map defaultValue, vm := .none } = T1 at X₁ st1
  have hcat : (Value.ref T.heap.size).category = 1 := rfl
  have hcellA : T1.heap[T.heap.size]? = some (freshCell cX kX) := by rw [← hT1]; exact State.heap_pushCell_size _ _
  have d3' : decode c.code (pc + 3) = .ok (.dup, 1) := by rw [hb]; exact d3
  have d4' : decode c.code (pc + 4) = .ok (.ldc is, 2) := by rw [hb]; exact d4
  have hstr' : vk_R own is text sa s' := vk_R.warm hW0 hstr
  obtain ⟨U, hsteps, hrun, hend, hW, hsame, ce, hce, hO⟩ := X₁.ctorThrowS hexec htr (own := own) (cls := cls) (names := names) (ic := ic) hown' hcls hnames h (fun x hx => nomatch hx) hfX hkX hcellA (by rw [hhp, hT]; exact Nat.le_refl _) (msg := .ref sa) rfl
    (g := { method := m, pc := pc + 6, locals := ls, stack := .ref sa :: .ref T.heap.size :: .ref T.heap.size :: rest, locked := none }) rfl hsize rfl rfl (rest := rest) rfl
    (by rw [hb]; exact d6) (by rw [hb]; exact d9) hout hRframes (by simp only [List.map_cons, List.sum_cons, hcat]; omega) hlocks
  obtain ⟨f1, f2⟩ := vx_frame hsame
  rw [hhp] at f1 f2
  have hWs : s.WarmedH U.vm := State.WarmedH.trans hW0 hW
  have hcl : s.vm.findClass cls = some ce.cls := by
    have h9 := hO.cls
    rw [hvm] at h9
    exact h9
  have hall : s.sameButNew ({ U with vm := s.vm } : State) locs mc ms := by
    subst hA
    obtain ⟨e1, e2⟩ := hsame
    rw [State.setFrames_setFrames] at e1
    have h2 : (T.setVm s.vm).sameButNew ({ U with vm := s.vm } : State) [] (0 + 1) (0 + 6) := ⟨e1, e2⟩
    have h3 := X.same.trans h2
    rw [List.append_nil] at h3
    exact h3.mono hc hs
  refine ⟨U, ?_, .threw T.heap.size, hrun, hend, Or.inr ⟨T.heap.size, rfl, cls, ce, locs, hx U hWs.alike f1 (fun q hq => f2 q hq (fun z hz => nomatch hz)), hce, hO.vm, hcl, hWs, hall, hf⟩⟩
  refine st1 _ ?_
  show Steps p.tables e below (T1.setTop { method := m, pc := pc + 3, locals := ls, stack := .ref T.heap.size :: rest, locked := none }) _
  jvm_step X₁.here [X₁.here.top, hexec, d3', Value.category]
  exact X₁.ldcString hexec (own := own) (text := text) (index := is) (a := sa) hown' hstr'.1 hstr'.2
    (g := { method := m, pc := pc + 4, locals := ls, stack := .ref T.heap.size :: .ref T.heap.size :: rest, locked := none }) rfl d4' _ hsteps
/-- 'throw new E("text")', the text by a wide index -/
theorem vx_throwSW {cc : ByteArray} {pc : Nat} (hexec : p.tables.exec = Jvm.exec) (hb : c.code = cc) (hl : l.stackTraces = false) {own cls text : String} {names : List String} {ik is ic mc ms sa : Nat} {A : Nat → Prop}
    (hown : s.vm.findClass own = some m.cls) (hcls : Bundle.fit cls = true) (hnames : ∀ n ∈ names, Bundle.fit n = true)
    (hk : (Cond.classLink own ik cls).before args s = true) (hini : (Cond.initialized cls).before args s = true) (hstr : vk_R own is text sa s) (hat : ∀ w ∈ vx_atS own ic cls names, w.before args s = true)
    (hgood : ∀ w ∈ Cond.classLink own ik cls :: Cond.initialized cls :: vx_atS own ic cls names, vx_ot w = true)
    (hU : vx_Zq Bundle.tN "UNASSIGNED_STACK" Bundle.steD A s s.heap) (hN : vx_Zq Bundle.tN "SUPPRESSED_SENTINEL" Bundle.listD A s s.heap) (hS : va_S A s.heap H locs) (hsize : ls.size = c.maxLocals)
    (d0 : decode cc pc = .ok (.new ik, 3)) (d3 : decode cc (pc + 3) = .ok (.dup, 1)) (d4 : decode cc (pc + 4) = .ok (.ldc_w is, 3)) (d7 : decode cc (pc + 7) = .ok (.invokespecial ic, 3)) (d10 : decode cc (pc + 10) = .ok (.athrow, 1))
    (hout : ∀ x ∈ c.exceptionTable.toList, covers x (pc + 10) = false)
    (hRframes : names.length + 3 < R.frames) (hRlocals : (rest.map fun v => v.category).sum + (13 * (names.length + 1) + 43) ≤ R.locals) (hRcells : cells + 1 ≤ R.cells) (hRslots : slots + 6 ≤ R.slots) (hlocks : meth.locks = false)
    (hx : ∀ t : State, s.vm.Alike t.vm → H.size ≤ t.heap.size → (∀ q : Nat, q < H.size → t.heap[q]? = H[q]?) → XC cls s t)
    (hf : ∀ z ∈ locs, free z.base) (hc : cells + 1 ≤ mc) (hs : slots + 6 ≤ ms) :
    W p l e R s m args below meth c H locs cells slots (vx_MQ below Qc XC args s mc ms free) (F0 m pc ls rest) := by
  intro T hT X
  have htr : e.platform.stackTraces = false := (show e.platform.stackTraces = l.stackTraces by rw [X.admits.platform]).trans hl
  have Y := vx_rebase X (R' := { frames := R.frames, locals := R.locals, cells := 1, slots := 6 }) (Nat.le_refl _) (Nat.le_refl _) hRcells hRslots
  obtain ⟨s', hA⟩ : ∃ z, z = (T.setVm s.vm).setFrames (.invoking m args :: below) := ⟨_, rfl⟩
  rw [← hA] at Y
  have hvm : s'.vm = s.vm := by rw [hA]; rfl
  have hhp : s'.heap = H := by rw [hA]; exact hT
  have hW0 : s.WarmedH s'.vm := by rw [hvm]; exact State.WarmedH.refl s
  have hat' : ∀ w ∈ vx_atS own ic cls names, w.before args s' = true := fun w hw => vx_ot_at hW0 hvm.symm (hgood w (List.mem_cons_of_mem _ (List.mem_cons_of_mem _ hw))) (hat w hw)
  have hk' : (Cond.classLink own ik cls).before args s' = true := vx_ot_at hW0 hvm.symm (hgood _ List.mem_cons_self) hk
  have hini' : (Cond.initialized cls).before args s' = true := vx_ot_at hW0 hvm.symm (hgood _ (List.mem_cons_of_mem _ List.mem_cons_self)) hini
  have hU' : vx_Zq Bundle.tN "UNASSIGNED_STACK" Bundle.steD A s' s'.heap := by rw [hhp]; exact vx_Zq.moved hW0.alike (hU.kept hS.2.1)
  have hN' : vx_Zq Bundle.tN "SUPPRESSED_SENTINEL" Bundle.listD A s' s'.heap := by rw [hhp]; exact vx_Zq.moved hW0.alike (hN.kept hS.2.1)
  have h : ∀ w ∈ Bundle.ownAtoms own ic cls names, w.before args s' = true := vx_own hat' (vx_isRefq hU'.1) (vx_isRefq hN'.1) hU'.2.word hN'.2.word
  have hown' : s'.vm.findClass own = some m.cls := by rw [hvm]; exact hown
  have hins : (Cond.instantiable cls 6).before args s' = true := h _ (by simp [Bundle.ownAtoms])
  obtain ⟨vm₁, cX, kX, hfX, hkX, -, -, X₁, st1⟩ := Y.newCold hexec (own := own) (C := cls) (index := ik) (n := 6) hown' hk' hins hini'
    (g := F0 m pc ls rest) rfl (by rw [hb]; exact d0) (Nat.le_refl _) (Nat.le_refl _)
  generalize hT1 : (T.setVm vm₁).pushCell { cls := cX, slots := kX.instanceTypes.map defaultValue, vm := .none } = T1 at X₁ st1
  have hcat : (Value.ref T.heap.size).category = 1 := rfl
  have hcellA : T1.heap[T.heap.size]? = some (freshCell cX kX) := by rw [← hT1]; exact State.heap_pushCell_size _ _
  have d3' : decode c.code (pc + 3) = .ok (.dup, 1) := by rw [hb]; exact d3
  have d4' : decode c.code (pc + 4) = .ok (.ldc_w is, 3) := by rw [hb]; exact d4
  have hstr' : vk_R own is text sa s' := vk_R.warm hW0 hstr
  obtain ⟨U, hsteps, hrun, hend, hW, hsame, ce, hce, hO⟩ := X₁.ctorThrowS hexec htr (own := own) (cls := cls) (names := names) (ic := ic) hown' hcls hnames h (fun x hx => nomatch hx) hfX hkX hcellA (by rw [hhp, hT]; exact Nat.le_refl _) (msg := .ref sa) rfl
    (g := { method := m, pc := pc + 7, locals := ls, stack := .ref sa :: .ref T.heap.size :: .ref T.heap.size :: rest, locked := none }) rfl hsize rfl rfl (rest := rest) rfl
    (by rw [hb]; exact d7) (by rw [hb]; exact d10) hout hRframes (by simp only [List.map_cons, List.sum_cons, hcat]; omega) hlocks
  obtain ⟨f1, f2⟩ := vx_frame hsame
  rw [hhp] at f1 f2
  have hWs : s.WarmedH U.vm := State.WarmedH.trans hW0 hW
  have hcl : s.vm.findClass cls = some ce.cls := by
    have h9 := hO.cls
    rw [hvm] at h9
    exact h9
  have hall : s.sameButNew ({ U with vm := s.vm } : State) locs mc ms := by
    subst hA
    obtain ⟨e1, e2⟩ := hsame
    rw [State.setFrames_setFrames] at e1
    have h2 : (T.setVm s.vm).sameButNew ({ U with vm := s.vm } : State) [] (0 + 1) (0 + 6) := ⟨e1, e2⟩
    have h3 := X.same.trans h2
    rw [List.append_nil] at h3
    exact h3.mono hc hs
  refine ⟨U, ?_, .threw T.heap.size, hrun, hend, Or.inr ⟨T.heap.size, rfl, cls, ce, locs, hx U hWs.alike f1 (fun q hq => f2 q hq (fun z hz => nomatch hz)), hce, hO.vm, hcl, hWs, hall, hf⟩⟩
  refine st1 _ ?_
  show Steps p.tables e below (T1.setTop { method := m, pc := pc + 3, locals := ls, stack := .ref T.heap.size :: rest, locked := none }) _
  jvm_step X₁.here [X₁.here.top, hexec, d3', Value.category]
  exact X₁.ldcStringW hexec (own := own) (text := text) (index := is) (a := sa) hown' hstr'.1 hstr'.2
    (g := { method := m, pc := pc + 4, locals := ls, stack := .ref T.heap.size :: .ref T.heap.size :: rest, locked := none }) rfl d4' _ hsteps
end Ends
section Bodies
variable {l : Launch}
theorem vx_ofW {y : MethodName} {ws ws' : List Cond} {rm : Room} {Pc : Array Value → State → Prop} {Qc : Array Value → State → Outcome → State → Prop} {XC : String → State → State → Prop} {mc ms : Nat} {free : Addr → Prop} {cc : ByteArray} {maxL : Nat} {ret : Option FieldType}
    (hy : plainName y.cls = true) (hw : ws = Cond.code y cc maxL ret :: ws')
    (body : ∀ p e s m args below meth c s₁, BodyLoose p l y (headSpec ws rm) cc maxL ret e s m args below meth c s₁ → c.maxLocals = maxL → (∀ x ∈ c.exceptionTable.toList, False) → Pc args s →
      W p l e (headSpec ws rm).room s m args below meth c s.heap [] 0 0 (vx_MQ below Qc XC args s mc ms free) (entryFrame m args maxL)) : vx_Met l y ws rm Pc Qc XC mc ms free := by
  refine MetFree.of_bodyS (code := cc) (maxLocals := maxL) (ret := ret) hy ?_ ?_
  · intro args s m h hn
    obtain ⟨meth, c, h1, h2, h3, h4, h5, h6, -, -⟩ := Cond.code_spec hn (atoms_spec (ws := ws) h _ (by rw [hw]; exact List.mem_cons_self))
    exact ⟨meth, c, h1, h2, h3, h4, h5, h6⟩
  · intro p e s m args below meth c s₁ B hml hP _
    have hh0 : s₁.heap = s.heap := by rw [B.state]; rfl
    have ht : ∀ x ∈ c.exceptionTable.toList, False := by
      obtain ⟨meth9, c9, h1, h2, -, -, -, -, h7, -⟩ := Cond.code_spec B.named (atoms_spec (ws := ws) B.pre _ (by rw [hw]; exact List.mem_cons_self))
      cases Option.some.inj (h1.symm.trans B.method)
      cases Option.some.inj (h2.symm.trans (Stand.of_body B).code)
      intro x hx
      rw [Array.isEmpty_iff.mp h7] at hx
      cases hx
    obtain ⟨t, a1, o, b1, b2, b3⟩ := body p e s m args below meth c s₁ B hml ht hP s₁ hh0 (Stand.of_body B)
    exact ⟨t, o, a1, b1, b2, b3⟩
/-- the table of a body with handlers -/
theorem vx_table {p : Program} {x y : MethodName} {S : Spec} {cc bytes : ByteArray} {maxL maxL' : Nat} {ret ret' : Option FieldType} {e : Env} {s s₁ : State} {m : MethodId} {args : Array Value} {below : List Frame} {meth : Method} {c : Code} {hh : List (Nat × Nat × Nat × Nat)}
    (B : BodyLoose p l y S cc maxL ret e s m args below meth c s₁) (h : (Cond.codeWith y bytes maxL' ret' hh).before args s = true) : c.exceptionTable.toList = tableOf hh := by
  obtain ⟨m9, meth9, c9, hn9, h1, h2, -, -, h6, -⟩ := Cond.codeWith_spec h
  cases Option.some.inj (hn9.symm.trans B.named)
  cases Option.some.inj (h1.symm.trans B.method)
  cases Option.some.inj (h2.symm.trans (Stand.of_body B).code)
  rw [← h6, table_eq]
end Bodies
end VXA
/-! ===== END ===== -/
/-! ===== BEGIN a static call of a method with an exception table ===== -/
section VXS
variable {p : Program} {l : Launch} {e : Env} {R : Room} {s : State} {m : MethodId} {args : Array Value} {below : List Frame} {meth : Method} {c : Code} {T : State} {H : Heap} {locs : List Loc} {cells slots : Nat}
abbrev vx_CSW (R : Room) (s : State) (args : Array Value) (own : String) (index : Nat) (y : MethodName) (bytes : ByteArray) (maxL : Nat) (ret : Option FieldType) (hh : List (Nat × Nat × Nat × Nat)) (ws : List Cond) (rm : Room) (mc ms n : Nat) : Prop :=
  (rm.cells = mc ∧ rm.slots = ms ∧ rm.frames + 1 ≤ R.frames ∧ 8 + (maxL + 11) + rm.locals ≤ R.locals ∧ (∀ w ∈ ws, ∀ (a' : Array Value) (U : State), s.WarmedH U.vm → w.before a' U = true) ∧ Cond.codeWith y bytes maxL ret hh ∈ ws) ∧
  (Cond.codeWith y bytes maxL ret hh).before args s = true ∧ (Cond.initialized y.cls).before args s = true ∧ (y.cls ≠ "java/lang/invoke/MethodHandle" ∧ y.cls ≠ "java/lang/invoke/VarHandle") ∧
  (∀ sig, parseMethodDescriptor y.desc = some sig → n = sig.parameters.length) ∧ (Cond.methodLink own index y).before args s = true ∧ (Cond.static y).before args s = true
theorem vx_cwSW {own : String} {index maxL mc ms : Nat} {y : MethodName} {bytes : ByteArray} {ret : Option FieldType} {hh : List (Nat × Nat × Nat × Nat)} {Ts ws ws' : List Cond} {rm : Room} (n : Nat) (ht : ∀ w ∈ Ts, w.before args s = true) (hT : GoodIn Ts (va_wsS own index y ws)) (hw : ws = Cond.codeWith y bytes maxL ret hh :: ws') (hrc : rm.cells = mc) (hrs : rm.slots = ms)
    (hd : y.cls ≠ "java/lang/invoke/MethodHandle" ∧ y.cls ≠ "java/lang/invoke/VarHandle" ∧ (parseMethodDescriptor y.desc).map (fun d => d.parameters.length) = some n) (hR : rm.frames + 1 ≤ R.frames ∧ 8 + (maxL + 11) + rm.locals ≤ R.locals) :
    vx_CSW R s args own index y bytes maxL ret hh ws rm mc ms n := by
  have ok : ∀ w ∈ va_wsS own index y ws, w.before args s = true := fun w h => ht w (hT w h).1
  have hG : GoodIn Ts ws := fun w h => hT w (by unfold va_wsS; exact List.mem_append_right _ h)
  have hc : Cond.codeWith y bytes maxL ret hh ∈ ws := by rw [hw]; exact List.mem_cons_self
  refine ⟨⟨hrc, hrs, hR.1, hR.2, pay_in ht hG, hc⟩, ht _ (hG _ hc).1, ok _ (by simp [va_wsS]), ⟨hd.1, hd.2.1⟩, fun sig h => ?_, ok _ (by simp [va_wsS]), ok _ (by simp [va_wsS])⟩
  have h2 := hd.2.2
  rw [h] at h2
  exact (Option.some.inj h2).symm
theorem vx_callSW (X : Stand p l e R s m args below meth c T locs cells slots) (hexec : p.tables.exec = Jvm.exec) {own : String} {index : Nat} {y : MethodName} {bytes : ByteArray} {maxL : Nat} {ret : Option FieldType} {hh : List (Nat × Nat × Nat × Nat)}
    (hown : s.vm.findClass own = some m.cls) (hlink : (Cond.methodLink own index y).before args s = true) (hstat : (Cond.static y).before args s = true) (hinit : (Cond.initialized y.cls).before args s = true)
    (hcode : (Cond.codeWith y bytes maxL ret hh).before args s = true) (hy : y.cls ≠ "java/lang/invoke/MethodHandle" ∧ y.cls ≠ "java/lang/invoke/VarHandle")
    {W9 : Nat} {Pre : Pt → Array Value → Prop} {Post : Pt → Array Value → Option Value → Pt → Prop} (hK : Back l R p e below s args y 3 W9 Pre Post)
    {g : JFrame} (hg : g.method = m) (hsize : g.locals.size = c.maxLocals) {argsL rest : List Value} (hlen : ∀ sig, parseMethodDescriptor y.desc = some sig → argsL.length = sig.parameters.length)
    (hstack : g.stack = argsL.reverse ++ rest) (hW : 2 * g.monitorRoom + (rest.map fun v => v.category).sum ≤ W9) (hdg : decode c.code g.pc = .ok (.invokestatic index, 3))
    (hpre : ∀ vm₁, s.WarmedH vm₁ → Pre ⟨T.setVm vm₁, locs, cells, slots⟩ argsL.toArray) :
    ∃ (v : Option Value) (vm₁ : Vm) (B : Pt), s.WarmedH vm₁ ∧ Stand p l e R s m args below meth c B.U B.locs B.cells B.slots ∧ Post ⟨T.setVm vm₁, locs, cells, slots⟩ argsL.toArray v B ∧
      ∀ target, Steps p.tables e below (B.U.setTop { g with pc := g.pc + 3, stack := v.toList ++ rest }) target → Steps p.tables e below (T.setTop g) target := by
  obtain ⟨mk, methM, cM, hnamed, hmethM, -, -, -, -, -, -, hsigM⟩ := Cond.codeWith_spec hcode
  have hstatic : methM.isStatic = true := Cond.static_spec hnamed hmethM hstat
  obtain ⟨kP, hkP, -⟩ := className_of_methodNamed hnamed
  have hinitP : kP.init = .initialized := Cond.initialized_spec (findClass_of_methodNamed hnamed) hkP hinit
  obtain ⟨vm₁, X₁, hstep₁⟩ := X.invokestatic hexec hown hlink hnamed hmethM hstatic hkP hinitP hy (g := g) hg (argsL := argsL) (rest := rest) (hlen _ hsigM) hstack hdg
  obtain ⟨v, B, X', hpost, hsteps⟩ := hK m meth c ⟨T.setVm vm₁, locs, cells, slots⟩ { g with stack := rest } (.invokestatic index) mk argsL.toArray X₁ hg hsize hdg hW (X₁.named hnamed) (hpre vm₁ X₁.warmed)
  exact ⟨v, vm₁, B, X₁.warmed, X', hpost, fun target h => hstep₁ _ fun acts => by rw [doInvoke_state]; exact hsteps.trans h⟩
theorem vx_runSW {y : MethodName} {bytes cc : ByteArray} {maxL nL mc ms n index : Nat} {ret : Option FieldType} {hh : List (Nat × Nat × Nat × Nat)} {ws : List Cond} {rm : Room} {Pc : Array Value → State → Prop} {Qc : Array Value → State → Outcome → State → Prop} {free : Addr → Prop} {Ts : List Cond} {own : String} {As rest : List Value} {g : JFrame}
    (S : CallFix p m c cc nL s args Ts own) (hM : Met l y ws rm Pc Qc mc ms free) (cw : vx_CSW R s args own index y bytes maxL ret hh ws rm mc ms n) (hp : PreS s H Pc As)
    (hg : g.method = m) (hn : As.length = n) (hsize : g.locals.size = nL) (hstack : g.stack = As.reverse ++ rest) (hW : 2 * g.monitorRoom + (rest.map fun v => v.category).sum ≤ 8) (hdg : decode cc g.pc = .ok (.invokestatic index, 3)) (hf : cells + mc ≤ R.cells ∧ slots + ms ≤ R.slots) :
    va_Run p l e R s m args below meth c H locs cells slots mc ms g rest (Qc As.toArray) (free) := by
  obtain ⟨⟨hrc, hrs, hfr, hlo, hws, hcw⟩, hcode, hini, hy, hlen, hl, hstt⟩ := cw
  have hK : Back l R p e below s args y 3 8 (PreOf R mc ms Pc) (PostOf Qc mc ms free) := va_backW (hh := hh) (bytes := bytes) (maxL := maxL) (ret := ret) hM hp.1 hrc hrs hfr hlo hws hcw (fun a' U hW => word_at hW (Or.inl (by first | rfl | simp [Cond.onTables, Cond.keeps, Cond.steady])) hini)
  obtain ⟨hx, hb, hml, ho, -⟩ := S
  intro T hT X
  obtain ⟨v, vm₁, ⟨U', l2, c2, s2⟩, hW₁, X', ⟨g', mk, t, L, e1, e2, hq, h1, hL, h2, h3⟩, st⟩ := vx_callSW X hx (hh := hh) (bytes := bytes) (maxL := maxL) (ret := ret) ho hl hstt hini hcode hy hK hg (hsize.trans hml.symm) (argsL := As) (rest := rest) (fun sig h => hn.trans (hlen sig h)) hstack hW (by rw [hb]; exact hdg)
    (fun vm₁ hW₁ => ⟨hf.1, hf.2, hp.2 (T.setVm vm₁) hT hW₁⟩)
  dsimp only [Pt.U, Pt.locs, Pt.cells, Pt.slots] at X' e1 e2 h1 h2 h3 st
  subst h1; subst h2; subst h3
  exact ⟨v, (T.setVm vm₁).calling g' mk As.toArray, t, U', L, hT, X', hL, e1, e2, hq, st⟩
/-- not caught here, past rows that name other classes: it goes on to the caller -/
theorem vx_outP {p : Program} {l : Launch} {e : Env} {R : Room} {s : State} {m : MethodId} {args : Array Value} {below : List Frame} {meth : Method} {c : Code} {H : Heap} {locs : List Loc} {cells slots : Nat} {free : Addr → Prop} {ls : Array Slot} {rest : List Value} {Qc : Array Value → State → Outcome → State → Prop} {XC : String → State → State → Prop}
    {pc : Nat} {own E : String} {ce : Cell} {q : Addr} {mc ms : Nat} (hown : s.vm.findClass own = some m.cls) (hlocks : meth.locks = false)
    (hpass : ∀ z ∈ c.exceptionTable.toList, covers z pc = false ∨ (z.catchType ≠ 0 ∧ ∃ nm : String, (Cond.classLink own z.catchType nm).before args s = true ∧ va_Nc E nm s)) (hcell : H[q]? = some ce) (hv : ce.vm = .none) (hcl : s.vm.findClass E = some ce.cls)
    (hx : ∀ t : State, t.heap = H → s.vm.Alike t.vm → XC E s t) (hf : ∀ z ∈ locs, free z.base) (hc : cells ≤ mc) (hs : slots ≤ ms) :
    vx_W p l e R s m args below meth c H locs cells slots (vx_MQ below Qc XC args s mc ms free) (F0 m pc ls rest) q := by
  intro T hT X
  have hpl : e.platform.magicAccessors = ({} : Platform).magicAccessors := by rw [X.admits.platform]
  obtain ⟨vm', hW', X', st⟩ := X.outThrough hlocks q (g := F0 m pc ls rest) rfl rfl rfl (cell := ce) (by rw [hT]; exact hcell) (by rw [hv]; rfl)
    (by obtain ⟨k9, h9, -⟩ := Vm.findClass_spec hcl; exact ⟨k9, h9⟩) (fun z hz => by
      rcases hpass z hz with h | ⟨hz0, nm, hl1, hn1⟩
      · exact Or.inl h
      · obtain ⟨c6, hc6, hcl6⟩ := Cond.classLink_spec hown hl1 e.platform hpl
        obtain ⟨a8, b8, h1, h2, h3⟩ := hn1
        cases Option.some.inj (h1.symm.trans hcl)
        cases Option.some.inj (h2.symm.trans hc6)
        exact Or.inr ⟨hz0, _, hcl6, h3⟩)
  obtain ⟨g₀, hfr⟩ := X'.frames_eq
  have hcell9 : ((T.setVm vm').setFrames (.throwing q :: below)).heap[q]? = some ce := by
    show T.heap[q]? = some ce
    rw [hT]; exact hcell
  have hend : Ended ((T.setVm vm').setFrames (.throwing q :: below)) below (.threw q) := State.frames_setFrames _ (State.cur_lt_of_frames hfr)
  refine ⟨(T.setVm vm').setFrames (.throwing q :: below), ?_, .threw q, X'.here.running, hend, Or.inr ⟨q, rfl, E, ce, locs, hx _ hT (X'.ends _).1.alike, hcell9, hv, hcl, (X'.ends _).1, (X'.ends _).2.mono hc hs, hf⟩⟩
  rw [X.pushThrowing_eq]
  exact st
/-- a thing of a world lies in the heap -/
theorem vx_lt {D : va_G} {cl : List vw_C} {ws : va_W} {H1 : Heap} (h : va_P D cl ws H1) {k : Nat} {q : Nat × va_E} (hk : ws[k]? = some q) : q.1 < H1.size := (h k q hk).lt
end VXS
/-! ===== END ===== -/
/-! ===== BEGIN methods with a table of their own: called by a name, returning or throwing ===== -/
section VXH
/-! vx_backW, vx_callVX, vx_callSX, vx_callVW, vx_runVW, vx_runVX, vx_runSX, vx_ofWH follow the same proofs as their sisters above (Free/Laws.lean, Shelf42/LK1.lean); vx_outP calls Shelf42/NT130.lean (outThrough). -/
section
variable {l : Launch} {R : Room} {p : Program} {e : Env} {below : List Frame} {s : State} {sargs : Array Value} {y : MethodName} {len W9 : Nat}
theorem vx_backW {ws : List Cond} {rm : Room} {Pc : Array Value → State → Prop} {Qc : Array Value → State → Outcome → State → Prop} {XC : String → State → State → Prop} {mc ms : Nat} {free : Addr → Prop} {bytes : ByteArray} {maxL : Nat} {ret : Option FieldType} {hh : List (Nat × Nat × Nat × Nat)}
    (hM : vx_Met l y ws rm Pc Qc XC mc ms free) (hblind : FrameBlind Pc) (hrc : rm.cells = mc) (hrs : rm.slots = ms)
    (hframes : rm.frames + 1 ≤ R.frames) (hlocals : W9 + (maxL + 11) + rm.locals ≤ R.locals)
    (hws : ∀ w ∈ ws, ∀ a' U, s.WarmedH U.vm → w.before a' U = true) (hcode : Cond.codeWith y bytes maxL ret hh ∈ ws) (hinit : ∀ a' U, s.WarmedH U.vm → (Cond.initialized y.cls).before a' U = true) :
    vx_Back l R p e below s sargs y len W9 (PreOf R mc ms Pc) (PostOf Qc mc ms free) (vx_Post XC mc ms free) := by
  intro m meth c A g ig mk a X hg hsize hdg hW hn hp
  have h1 : (headSpec ws rm).pre.before a A.U = true := atoms_intro fun w hw => hws w hw _ _ X.warmed
  have h2 : (Cond.codeWith y bytes maxL ret hh).before a A.U = true := hws _ hcode _ _ X.warmed
  have h3 : (Cond.initialized y.cls).before a A.U = true := hinit _ _ X.warmed
  have h4 : A.cells + (headSpec ws rm).room.cells ≤ R.cells := by rw [show (headSpec ws rm).room.cells = mc from hrc]; exact hp.1
  have h5 : A.slots + (headSpec ws rm).room.slots ≤ R.slots := by rw [show (headSpec ws rm).room.slots = ms from hrs]; exact hp.2.1
  have hPc : Pc a (A.U.calling g mk a) := hblind _ _ _ _ hp.2.2
  obtain ⟨U, Ls, c0, s0⟩ := A
  dsimp only [Pt.U, Pt.locs, Pt.cells, Pt.slots] at h1 h2 h3 h4 h5 X hn hPc ⊢
  obtain ⟨m9, methY, cY, hn9, hmY, hcY, -, hlY, -⟩ := Cond.codeWith_spec h2
  cases Option.some.inj (hn9.symm.trans hn)
  obtain ⟨kY, hkY, -⟩ := className_of_methodNamed hn
  have hinitY : kY.init = .initialized := Cond.initialized_spec (findClass_of_methodNamed hn) hkY h3
  have h : At U g.method c below := by rw [hg]; exact X.here
  have hlocals9 : W9 + (maxL + 11) + (headSpec ws rm).room.locals ≤ R.locals := hlocals
  have happ : (headSpec ws rm).appliesLoose y e.platform (U.calling g mk a) = true :=
    Spec.appliesLoose_calling (g := g) h hdg hn hkY hinitY
      (X.room_calling (g := g) (R' := (headSpec ws rm).room) hsize hmY hcY hframes (by rw [hlY]; omega) h4 h5) h1
  obtain ⟨mid, hmid⟩ := h.above
  have hfr : (U.setTop g).frames = (.java g :: mid) ++ below := by rw [State.frames_setTop' g h.top, hmid]; rfl
  obtain ⟨o, s₂, hsteps, -, hend, hq⟩ := Steps.callFree hM p X.admits X.cas X.clock (acts := []) hfr happ hPc trivial
  have hq' : vx_Q Qc XC mc ms free a (U.calling g mk a) o s₂ := hq
  rw [State.frames_setTop' g h.top] at hend
  obtain ⟨g₀, hg0⟩ := Option.isSome_iff_exists.mp h.top
  obtain ⟨r, hr⟩ := State.topJava?_eq_some.mp hg0
  have hr' : (({ U with heap := s₂.heap, slotsUsed := s₂.slotsUsed } : State).setVm s₂.vm).frames = .java g₀ :: r := hr
  rcases hq' with ⟨hqc, L, hfe, hL⟩ | ⟨q, rfl, E, ce, L, hx, hce, hcv, hcl, hW₂, hsm, hL⟩
  · obtain ⟨⟨v, rfl⟩, hW₂, e2, q2, q3, q4, q5, q6⟩ := id hfe
    have e3 : s₂ = ({ (U.calling g mk a).setFrames s₂.frames with heap := s₂.heap, slotsUsed := s₂.slotsUsed } : State).setVm s₂.vm := by
      have : s₂ = ({ s₂ with vm := (U.calling g mk a).vm } : State).setVm s₂.vm := rfl
      rw [e2] at this
      exact this
    obtain ⟨c₂, i₂, len₂, hc₂, hd₂, hf₂⟩ := hend
    have hW' : U.WarmedH s₂.vm := hW₂
    have hcc : c₂ = c := by
      have h1 : s₂.code? g.method = U.code? g.method := by
        rw [State.code?_eq, State.code?_eq, hW'.alike.method?]
      exact Option.some.inj (hc₂.symm.trans (h1.trans h.code))
    subst hcc
    have hlen : len₂ = len := by rw [hdg] at hd₂; cases hd₂; rfl
    subst hlen
    have hs₂ : s₂ = (({ U with heap := s₂.heap, slotsUsed := s₂.slotsUsed } : State).setVm s₂.vm).setTop { g with pc := g.pc + len₂, stack := v.toList ++ g.stack } := by
      refine e3.trans ?_
      rw [hf₂, State.calling_eq h.top, State.setFrames_setFrames, State.setTop_of_frames _ hr', hr]
      rfl
    have hsame : U.sameButNew ({ U with heap := s₂.heap, slotsUsed := s₂.slotsUsed } : State) L mc ms := by
      refine ⟨?_, q2, q3, q4, q5, q6⟩
      obtain ⟨t, ht, -⟩ := State.frames_cons hr
      show ({ U with heap := s₂.heap, slotsUsed := s₂.slotsUsed } : State) = { U.setFrames U.frames with heap := s₂.heap, slotsUsed := s₂.slotsUsed }
      rw [State.setFrames_self ht]
    subst hg
    refine Or.inl ⟨v, ⟨(({ U with heap := s₂.heap, slotsUsed := s₂.slotsUsed } : State).setVm s₂.vm), Ls ++ L, c0 + mc, s0 + ms⟩,
      ⟨X.admits, X.cas, X.clock, X.frames, X.room, X.hears, X.method, X.code, (X.here.setHeapUsed s₂.heap s₂.slotsUsed).setVm hW'.alike, X.tail, State.WarmedH.trans X.warmed hW', X.limits, X.bytes, X.same.trans (hsame.setVm s.vm)⟩,
      ⟨g, mk, s₂, L, rfl, rfl, hqc, rfl, hL, rfl, rfl⟩, ?_⟩
    show Steps p.tables e below _ ((({ U with heap := s₂.heap, slotsUsed := s₂.slotsUsed } : State).setVm s₂.vm).setTop { g with pc := g.pc + len₂, stack := v.toList ++ g.stack })
    rw [← hs₂]
    exact hsteps
  · obtain ⟨e2, q2, q3, q4, q5, q6⟩ := id hsm
    have e3 : s₂ = ({ (U.calling g mk a).setFrames s₂.frames with heap := s₂.heap, slotsUsed := s₂.slotsUsed } : State).setVm s₂.vm := by
      have : s₂ = ({ s₂ with vm := (U.calling g mk a).vm } : State).setVm s₂.vm := rfl
      rw [e2] at this
      exact this
    have hf₂ : s₂.frames = .throwing q :: .java g :: U.frames.tail := hend
    have hW' : U.WarmedH s₂.vm := hW₂
    have hs₂ : s₂ = ((({ U with heap := s₂.heap, slotsUsed := s₂.slotsUsed } : State).setVm s₂.vm).setTop g).pushFrame (.throwing q) := by
      refine e3.trans ?_
      rw [hf₂, State.calling_eq h.top, State.setFrames_setFrames, State.pushFrame, State.frames_setTop _ hr', State.setTop_of_frames _ hr', State.setFrames_setFrames, hr]
      rfl
    have hsame : U.sameButNew ({ U with heap := s₂.heap, slotsUsed := s₂.slotsUsed } : State) L mc ms := by
      refine ⟨?_, q2, q3, q4, q5, q6⟩
      obtain ⟨t, ht, -⟩ := State.frames_cons hr
      show ({ U with heap := s₂.heap, slotsUsed := s₂.slotsUsed } : State) = { U.setFrames U.frames with heap := s₂.heap, slotsUsed := s₂.slotsUsed }
      rw [State.setFrames_self ht]
    subst hg
    refine Or.inr ⟨q, ⟨(({ U with heap := s₂.heap, slotsUsed := s₂.slotsUsed } : State).setVm s₂.vm), Ls ++ L, c0 + mc, s0 + ms⟩,
      ⟨X.admits, X.cas, X.clock, X.frames, X.room, X.hears, X.method, X.code, (X.here.setHeapUsed s₂.heap s₂.slotsUsed).setVm hW'.alike, X.tail, State.WarmedH.trans X.warmed hW', X.limits, X.bytes, X.same.trans (hsame.setVm s.vm)⟩,
      ⟨g, mk, s₂, L, E, ce, rfl, rfl, hx, hce, hcv, hcl, rfl, hL, rfl, rfl⟩, ?_⟩
    show Steps p.tables e below _ (((({ U with heap := s₂.heap, slotsUsed := s₂.slotsUsed } : State).setVm s₂.vm).setTop g).pushFrame (.throwing q))
    rw [← hs₂]
    exact hsteps
end
variable {p : Program} {l : Launch} {e : Env} {R : Room} {s : State} {m : MethodId} {args : Array Value} {below : List Frame} {meth : Method} {c : Code} {T : State} {H : Heap} {locs : List Loc} {cells slots : Nat}
theorem vx_callVX (X : Stand p l e R s m args below meth c T locs cells slots) (hexec : p.tables.exec = Jvm.exec) {own C : String} {index : Nat} {y : MethodName} {bytes : ByteArray} {maxL : Nat} {ret : Option FieldType} {hh : List (Nat × Nat × Nat × Nat)}
    (hown : s.vm.findClass own = some m.cls) (hlink : (Cond.methodLink own index y).before args s = true) (hinst : (Cond.instanceMethod y).before args s = true) (hsel : (Cond.selects C y y).before args s = true)
    (hcode : (Cond.codeWith y bytes maxL ret hh).before args s = true) (hy : y.cls ≠ "java/lang/invoke/MethodHandle" ∧ y.cls ≠ "java/lang/invoke/VarHandle")
    {W9 : Nat} {Pre : Pt → Array Value → Prop} {Post : Pt → Array Value → Option Value → Pt → Prop} {PostX : Pt → Array Value → Addr → Pt → Prop} (hK : vx_Back l R p e below s args y 3 W9 Pre Post PostX)
    {b : Addr} {cellB : Cell} (hcell : T.heap[b]? = some cellB) (hobj : cellB.vm.isStatics = false) (hcls : s.vm.findClass C = some cellB.cls)
    {g : JFrame} (hg : g.method = m) (hsize : g.locals.size = c.maxLocals) {argsL rest : List Value} (hlen : ∀ sig, parseMethodDescriptor y.desc = some sig → argsL.length = sig.parameters.length)
    (hstack : g.stack = argsL.reverse ++ .ref b :: rest) (hW : 2 * g.monitorRoom + (rest.map fun v => v.category).sum ≤ W9) (hdg : decode c.code g.pc = .ok (.invokevirtual index, 3))
    (hpre : ∀ vm₁, s.WarmedH vm₁ → Pre ⟨T.setVm vm₁, locs, cells, slots⟩ (Value.ref b :: argsL).toArray) :
    (∃ (v : Option Value) (vm₁ : Vm) (B : Pt), s.WarmedH vm₁ ∧ Stand p l e R s m args below meth c B.U B.locs B.cells B.slots ∧ Post ⟨T.setVm vm₁, locs, cells, slots⟩ (Value.ref b :: argsL).toArray v B ∧
      ∀ target, Steps p.tables e below (B.U.setTop { g with pc := g.pc + 3, stack := v.toList ++ rest }) target → Steps p.tables e below (T.setTop g) target) ∨
    (∃ (q : Addr) (vm₁ : Vm) (B : Pt), s.WarmedH vm₁ ∧ Stand p l e R s m args below meth c B.U B.locs B.cells B.slots ∧ PostX ⟨T.setVm vm₁, locs, cells, slots⟩ (Value.ref b :: argsL).toArray q B ∧
      Steps p.tables e below (T.setTop g) ((B.U.setTop { g with stack := rest }).pushFrame (.throwing q))) := by
  obtain ⟨mk, methM, hnamed, hmethM, hstM, habM⟩ := Cond.instanceMethod_spec hinst
  obtain ⟨m8, methM', cM, hn8, hmethM', -, -, -, -, -, -, hsigM⟩ := Cond.codeWith_spec hcode
  cases Option.some.inj (hn8.symm.trans hnamed)
  cases hmethM.symm.trans hmethM'
  obtain ⟨c2, r2, m2, q1, q2, q3, q4, kP, hkP, hkPi⟩ := Cond.selects_spec hsel
  cases hcls.symm.trans q1
  cases (State.methodFound?_of_named hnamed hy).symm.trans q2
  cases hnamed.symm.trans q3
  have hselP : selectMethod e.platform s.vm cellB.cls mk = .method mk := by rw [Launch.admits_selectMethod X.admits]; exact q4
  obtain ⟨vm₁, X₁, hstep₁⟩ := X.invokevirtual hexec hown hlink hnamed hmethM hstM hkP hkPi hy (a := b) (cell := cellB) hcell
    (fun z h => by rw [h] at hobj; cases hobj) hselP hmethM habM hkP hkPi (g := g) hg (argsL := argsL) (rest := rest) (hlen _ hsigM) hstack hdg
  rcases hK m meth c ⟨T.setVm vm₁, locs, cells, slots⟩ { g with stack := rest } (.invokevirtual index) mk (Value.ref b :: argsL).toArray X₁ hg hsize hdg hW (X₁.named hnamed) (hpre vm₁ X₁.warmed) with ⟨v, B, X', hpost, hsteps⟩ | ⟨q, B, X', hpost, hsteps⟩
  · exact Or.inl ⟨v, vm₁, B, X₁.warmed, X', hpost, fun target h => hstep₁ _ fun acts => by rw [doInvoke_state]; exact hsteps.trans h⟩
  · exact Or.inr ⟨q, vm₁, B, X₁.warmed, X', hpost, hstep₁ _ fun acts => by rw [doInvoke_state]; exact hsteps⟩
theorem vx_callSX (X : Stand p l e R s m args below meth c T locs cells slots) (hexec : p.tables.exec = Jvm.exec) {own : String} {index : Nat} {y : MethodName} {bytes : ByteArray} {maxL : Nat} {ret : Option FieldType} {hh : List (Nat × Nat × Nat × Nat)}
    (hown : s.vm.findClass own = some m.cls) (hlink : (Cond.methodLink own index y).before args s = true) (hstat : (Cond.static y).before args s = true) (hinit : (Cond.initialized y.cls).before args s = true)
    (hcode : (Cond.codeWith y bytes maxL ret hh).before args s = true) (hy : y.cls ≠ "java/lang/invoke/MethodHandle" ∧ y.cls ≠ "java/lang/invoke/VarHandle")
    {W9 : Nat} {Pre : Pt → Array Value → Prop} {Post : Pt → Array Value → Option Value → Pt → Prop} {PostX : Pt → Array Value → Addr → Pt → Prop} (hK : vx_Back l R p e below s args y 3 W9 Pre Post PostX)
    {g : JFrame} (hg : g.method = m) (hsize : g.locals.size = c.maxLocals) {argsL rest : List Value} (hlen : ∀ sig, parseMethodDescriptor y.desc = some sig → argsL.length = sig.parameters.length)
    (hstack : g.stack = argsL.reverse ++ rest) (hW : 2 * g.monitorRoom + (rest.map fun v => v.category).sum ≤ W9) (hdg : decode c.code g.pc = .ok (.invokestatic index, 3))
    (hpre : ∀ vm₁, s.WarmedH vm₁ → Pre ⟨T.setVm vm₁, locs, cells, slots⟩ argsL.toArray) :
    (∃ (v : Option Value) (vm₁ : Vm) (B : Pt), s.WarmedH vm₁ ∧ Stand p l e R s m args below meth c B.U B.locs B.cells B.slots ∧ Post ⟨T.setVm vm₁, locs, cells, slots⟩ argsL.toArray v B ∧
      ∀ target, Steps p.tables e below (B.U.setTop { g with pc := g.pc + 3, stack := v.toList ++ rest }) target → Steps p.tables e below (T.setTop g) target) ∨
    (∃ (q : Addr) (vm₁ : Vm) (B : Pt), s.WarmedH vm₁ ∧ Stand p l e R s m args below meth c B.U B.locs B.cells B.slots ∧ PostX ⟨T.setVm vm₁, locs, cells, slots⟩ argsL.toArray q B ∧
      Steps p.tables e below (T.setTop g) ((B.U.setTop { g with stack := rest }).pushFrame (.throwing q))) := by
  obtain ⟨mk, methM, cM, hnamed, hmethM, -, -, -, -, -, -, hsigM⟩ := Cond.codeWith_spec hcode
  have hstatic : methM.isStatic = true := Cond.static_spec hnamed hmethM hstat
  obtain ⟨kP, hkP, -⟩ := className_of_methodNamed hnamed
  have hinitP : kP.init = .initialized := Cond.initialized_spec (findClass_of_methodNamed hnamed) hkP hinit
  obtain ⟨vm₁, X₁, hstep₁⟩ := X.invokestatic hexec hown hlink hnamed hmethM hstatic hkP hinitP hy (g := g) hg (argsL := argsL) (rest := rest) (hlen _ hsigM) hstack hdg
  rcases hK m meth c ⟨T.setVm vm₁, locs, cells, slots⟩ { g with stack := rest } (.invokestatic index) mk argsL.toArray X₁ hg hsize hdg hW (X₁.named hnamed) (hpre vm₁ X₁.warmed) with ⟨v, B, X', hpost, hsteps⟩ | ⟨q, B, X', hpost, hsteps⟩
  · exact Or.inl ⟨v, vm₁, B, X₁.warmed, X', hpost, fun target h => hstep₁ _ fun acts => by rw [doInvoke_state]; exact hsteps.trans h⟩
  · exact Or.inr ⟨q, vm₁, B, X₁.warmed, X', hpost, hstep₁ _ fun acts => by rw [doInvoke_state]; exact hsteps⟩
theorem vx_callVW (X : Stand p l e R s m args below meth c T locs cells slots) (hexec : p.tables.exec = Jvm.exec) {own C : String} {index : Nat} {y : MethodName} {bytes : ByteArray} {maxL : Nat} {ret : Option FieldType} {hh : List (Nat × Nat × Nat × Nat)}
    (hown : s.vm.findClass own = some m.cls) (hlink : (Cond.methodLink own index y).before args s = true) (hinst : (Cond.instanceMethod y).before args s = true) (hsel : (Cond.selects C y y).before args s = true)
    (hcode : (Cond.codeWith y bytes maxL ret hh).before args s = true) (hy : y.cls ≠ "java/lang/invoke/MethodHandle" ∧ y.cls ≠ "java/lang/invoke/VarHandle")
    {W9 : Nat} {Pre : Pt → Array Value → Prop} {Post : Pt → Array Value → Option Value → Pt → Prop} (hK : Back l R p e below s args y 3 W9 Pre Post)
    {b : Addr} {cellB : Cell} (hcell : T.heap[b]? = some cellB) (hobj : cellB.vm.isStatics = false) (hcls : s.vm.findClass C = some cellB.cls)
    {g : JFrame} (hg : g.method = m) (hsize : g.locals.size = c.maxLocals) {argsL rest : List Value} (hlen : ∀ sig, parseMethodDescriptor y.desc = some sig → argsL.length = sig.parameters.length)
    (hstack : g.stack = argsL.reverse ++ .ref b :: rest) (hW : 2 * g.monitorRoom + (rest.map fun v => v.category).sum ≤ W9) (hdg : decode c.code g.pc = .ok (.invokevirtual index, 3))
    (hpre : ∀ vm₁, s.WarmedH vm₁ → Pre ⟨T.setVm vm₁, locs, cells, slots⟩ (Value.ref b :: argsL).toArray) :
    ∃ (v : Option Value) (vm₁ : Vm) (B : Pt), s.WarmedH vm₁ ∧ Stand p l e R s m args below meth c B.U B.locs B.cells B.slots ∧ Post ⟨T.setVm vm₁, locs, cells, slots⟩ (Value.ref b :: argsL).toArray v B ∧
      ∀ target, Steps p.tables e below (B.U.setTop { g with pc := g.pc + 3, stack := v.toList ++ rest }) target → Steps p.tables e below (T.setTop g) target := by
  obtain ⟨mk, methM, hnamed, hmethM, hstM, habM⟩ := Cond.instanceMethod_spec hinst
  obtain ⟨m8, methM', cM, hn8, hmethM', -, -, -, -, -, -, hsigM⟩ := Cond.codeWith_spec hcode
  cases Option.some.inj (hn8.symm.trans hnamed)
  cases hmethM.symm.trans hmethM'
  obtain ⟨c2, r2, m2, q1, q2, q3, q4, kP, hkP, hkPi⟩ := Cond.selects_spec hsel
  cases hcls.symm.trans q1
  cases (State.methodFound?_of_named hnamed hy).symm.trans q2
  cases hnamed.symm.trans q3
  have hselP : selectMethod e.platform s.vm cellB.cls mk = .method mk := by rw [Launch.admits_selectMethod X.admits]; exact q4
  obtain ⟨vm₁, X₁, hstep₁⟩ := X.invokevirtual hexec hown hlink hnamed hmethM hstM hkP hkPi hy (a := b) (cell := cellB) hcell
    (fun z h => by rw [h] at hobj; cases hobj) hselP hmethM habM hkP hkPi (g := g) hg (argsL := argsL) (rest := rest) (hlen _ hsigM) hstack hdg
  obtain ⟨v, B, X', hpost, hsteps⟩ := hK m meth c ⟨T.setVm vm₁, locs, cells, slots⟩ { g with stack := rest } (.invokevirtual index) mk (Value.ref b :: argsL).toArray X₁ hg hsize hdg hW (X₁.named hnamed) (hpre vm₁ X₁.warmed)
  exact ⟨v, vm₁, B, X₁.warmed, X', hpost, fun target h => hstep₁ _ fun acts => by rw [doInvoke_state]; exact hsteps.trans h⟩
abbrev vx_CVW (R : Room) (s : State) (args : Array Value) (own C : String) (index : Nat) (y : MethodName) (bytes : ByteArray) (maxL : Nat) (ret : Option FieldType) (hh : List (Nat × Nat × Nat × Nat)) (ws : List Cond) (rm : Room) (mc ms n : Nat) : Prop :=
  (rm.cells = mc ∧ rm.slots = ms ∧ rm.frames + 1 ≤ R.frames ∧ 8 + (maxL + 11) + rm.locals ≤ R.locals ∧ (∀ w ∈ ws, ∀ (a' : Array Value) (U : State), s.WarmedH U.vm → w.before a' U = true) ∧ Cond.codeWith y bytes maxL ret hh ∈ ws) ∧
  (Cond.codeWith y bytes maxL ret hh).before args s = true ∧ (Cond.initialized y.cls).before args s = true ∧ (y.cls ≠ "java/lang/invoke/MethodHandle" ∧ y.cls ≠ "java/lang/invoke/VarHandle") ∧
  (∀ sig, parseMethodDescriptor y.desc = some sig → n = sig.parameters.length) ∧ (Cond.methodLink own index y).before args s = true ∧ (Cond.instanceMethod y).before args s = true ∧ (Cond.selects C y y).before args s = true
theorem vx_cwVW {own C : String} {index maxL mc ms : Nat} {y : MethodName} {bytes : ByteArray} {ret : Option FieldType} {hh : List (Nat × Nat × Nat × Nat)} {Ts ws ws' : List Cond} {rm : Room} (n : Nat) (ht : ∀ w ∈ Ts, w.before args s = true) (hT : GoodIn Ts (wsV own index C y ws)) (hw : ws = Cond.codeWith y bytes maxL ret hh :: ws') (hrc : rm.cells = mc) (hrs : rm.slots = ms)
    (hd : y.cls = C ∧ y.cls ≠ "java/lang/invoke/MethodHandle" ∧ y.cls ≠ "java/lang/invoke/VarHandle" ∧ (parseMethodDescriptor y.desc).map (fun d => d.parameters.length) = some n) (hR : rm.frames + 1 ≤ R.frames ∧ 8 + (maxL + 11) + rm.locals ≤ R.locals) :
    vx_CVW R s args own C index y bytes maxL ret hh ws rm mc ms n := by
  obtain ⟨hC, hd⟩ := hd
  subst hC
  have ok : ∀ w ∈ wsV own index y.cls y ws, w.before args s = true := fun w h => ht w (hT w h).1
  have hG : GoodIn Ts ws := fun w h => hT w (by unfold wsV; exact List.mem_append_right _ h)
  have hc : Cond.codeWith y bytes maxL ret hh ∈ ws := by rw [hw]; exact List.mem_cons_self
  refine ⟨⟨hrc, hrs, hR.1, hR.2, pay_in ht hG, hc⟩, ht _ (hG _ hc).1, ok _ (by simp [wsV]), ⟨hd.1, hd.2.1⟩, fun sig h => ?_, ok _ (by simp [wsV]), ok _ (by simp [wsV]), ok _ (by simp [wsV])⟩
  have h2 := hd.2.2
  rw [h] at h2
  exact (Option.some.inj h2).symm
theorem vx_runVW {y : MethodName} {bytes cc : ByteArray} {maxL nL mc ms n index : Nat} {ret : Option FieldType} {hh : List (Nat × Nat × Nat × Nat)} {ws : List Cond} {rm : Room} {Pc : Array Value → State → Prop} {Qc : Array Value → State → Outcome → State → Prop} {free : Addr → Prop} {Ts : List Cond} {own C : String} {b : Addr} {As rest : List Value} {g : JFrame}
    (S : CallFix p m c cc nL s args Ts own) (hM : Met l y ws rm Pc Qc mc ms free) (cw : vx_CVW R s args own C index y bytes maxL ret hh ws rm mc ms n) (hp : PreV s H C b Pc As)
    (hg : g.method = m) (hn : As.length = n) (hsize : g.locals.size = nL) (hstack : g.stack = As.reverse ++ .ref b :: rest) (hW : 2 * g.monitorRoom + (rest.map fun v => v.category).sum ≤ 8) (hdg : decode cc g.pc = .ok (.invokevirtual index, 3)) (hf : cells + mc ≤ R.cells ∧ slots + ms ≤ R.slots) :
    va_Run p l e R s m args below meth c H locs cells slots mc ms g rest (Qc (Value.ref b :: As).toArray) free := by
  obtain ⟨⟨hrc, hrs, hfr, hlo, hws, hcw⟩, hcode, hini, hy, hlen, hl, hin, hse⟩ := cw
  have hK : Back l R p e below s args y 3 8 (PreOf R mc ms Pc) (PostOf Qc mc ms free) := va_backW (hh := hh) (bytes := bytes) (maxL := maxL) (ret := ret) hM hp.1 hrc hrs hfr hlo hws hcw (fun a' U hW => word_at hW (Or.inl (by first | rfl | simp [Cond.onTables, Cond.keeps, Cond.steady])) hini)
  obtain ⟨hx, hb, hml, ho, -⟩ := S
  obtain ⟨-, ⟨cellB, hcB, hoB, hclB⟩, hPc⟩ := hp
  intro T hT X
  obtain ⟨v, vm₁, ⟨U', l2, c2, s2⟩, hW₁, X', ⟨g', mk, t, L, e1, e2, hq, h1, hL, h2, h3⟩, st⟩ := vx_callVW X hx (C := C) (hh := hh) (bytes := bytes) (maxL := maxL) (ret := ret) ho hl hin hse hcode hy hK (by rw [hT]; exact hcB) hoB hclB hg (hsize.trans hml.symm) (argsL := As) (rest := rest) (fun sig h => hn.trans (hlen sig h)) hstack hW (by rw [hb]; exact hdg)
    (fun vm₁ hW₁ => ⟨hf.1, hf.2, hPc (T.setVm vm₁) hT hW₁⟩)
  dsimp only [Pt.U, Pt.locs, Pt.cells, Pt.slots] at X' e1 e2 h1 h2 h3 st
  subst h1; subst h2; subst h3
  exact ⟨v, (T.setVm vm₁).calling g' mk (Value.ref b :: As).toArray, t, U', L, hT, X', hL, e1, e2, hq, st⟩
section
variable {y : MethodName} {bytes cc : ByteArray} {maxL nL mc ms n index : Nat} {ret : Option FieldType} {ws : List Cond} {rm : Room} {Pc : Array Value → State → Prop} {Qc : Array Value → State → Outcome → State → Prop} {XC : String → State → State → Prop} {free : Addr → Prop} {Ts : List Cond} {own C : String} {b : Addr} {As rest : List Value} {g : JFrame}
theorem vx_runVX {hh : List (Nat × Nat × Nat × Nat)} (S : CallFix p m c cc nL s args Ts own) (hM : vx_Met l y ws rm Pc Qc XC mc ms free) (cw : vx_CVW R s args own C index y bytes maxL ret hh ws rm mc ms n) (hp : PreV s H C b Pc As)
    (hg : g.method = m) (hn : As.length = n) (hsize : g.locals.size = nL) (hstack : g.stack = As.reverse ++ .ref b :: rest) (hW : 2 * g.monitorRoom + (rest.map fun v => v.category).sum ≤ 8) (hdg : decode cc g.pc = .ok (.invokevirtual index, 3)) (hf : cells + mc ≤ R.cells ∧ slots + ms ≤ R.slots) :
    vx_Run p l e R s m args below meth c H locs cells slots mc ms g rest (Qc (Value.ref b :: As).toArray) XC free := by
  obtain ⟨⟨hrc, hrs, hfr, hlo, hws, hcw⟩, hcode, hini, hy, hlen, hl, hin, hse⟩ := cw
  have hK : vx_Back l R p e below s args y 3 8 (PreOf R mc ms Pc) (PostOf Qc mc ms free) (vx_Post XC mc ms free) := vx_backW (hh := hh) (bytes := bytes) (maxL := maxL) (ret := ret) hM hp.1 hrc hrs hfr hlo hws hcw (fun a' U hW => word_at hW (Or.inl (by first | rfl | simp [Cond.onTables, Cond.keeps, Cond.steady])) hini)
  obtain ⟨hx, hb, hml, ho, -⟩ := S
  obtain ⟨-, ⟨cellB, hcB, hoB, hclB⟩, hPc⟩ := hp
  intro T hT X
  rcases vx_callVX X hx (C := C) (hh := hh) (bytes := bytes) (maxL := maxL) (ret := ret) ho hl hin hse hcode hy hK (by rw [hT]; exact hcB) hoB hclB hg (hsize.trans hml.symm) (argsL := As) (rest := rest) (fun sig h => hn.trans (hlen sig h)) hstack hW (by rw [hb]; exact hdg)
    (fun vm₁ hW₁ => ⟨hf.1, hf.2, hPc (T.setVm vm₁) hT hW₁⟩) with ⟨v, vm₁, ⟨U', l2, c2, s2⟩, hW₁, X', ⟨g', mk, t, L, e1, e2, hq, h1, hL, h2, h3⟩, st⟩ | ⟨q, vm₁, ⟨U', l2, c2, s2⟩, hW₁, X', ⟨g', mk, t, L, E, ce, e1, e2, hq, hce, hcv, hcl, h1, hL, h2, h3⟩, st⟩
  · dsimp only [Pt.U, Pt.locs, Pt.cells, Pt.slots] at X' e1 e2 h1 h2 h3 st
    subst h1; subst h2; subst h3
    exact Or.inl ⟨v, (T.setVm vm₁).calling g' mk (Value.ref b :: As).toArray, t, U', L, hT, X', hL, e1, e2, hq, st⟩
  · dsimp only [Pt.U, Pt.locs, Pt.cells, Pt.slots] at X' e1 e2 h1 h2 h3 st hcl
    subst h1; subst h2; subst h3
    exact Or.inr ⟨q, (T.setVm vm₁).calling g' mk (Value.ref b :: As).toArray, t, U', L, E, ce, hT, X', hL, e1, e2, hq, hce, hcv, vx_cls hW₁ hcl, st⟩
theorem vx_runSX {hh : List (Nat × Nat × Nat × Nat)} (S : CallFix p m c cc nL s args Ts own) (hM : vx_Met l y ws rm Pc Qc XC mc ms free) (cw : vx_CSW R s args own index y bytes maxL ret hh ws rm mc ms n) (hp : PreS s H Pc As)
    (hg : g.method = m) (hn : As.length = n) (hsize : g.locals.size = nL) (hstack : g.stack = As.reverse ++ rest) (hW : 2 * g.monitorRoom + (rest.map fun v => v.category).sum ≤ 8) (hdg : decode cc g.pc = .ok (.invokestatic index, 3)) (hf : cells + mc ≤ R.cells ∧ slots + ms ≤ R.slots) :
    vx_Run p l e R s m args below meth c H locs cells slots mc ms g rest (Qc As.toArray) XC free := by
  obtain ⟨⟨hrc, hrs, hfr, hlo, hws, hcw⟩, hcode, hini, hy, hlen, hl, hstt⟩ := cw
  have hK : vx_Back l R p e below s args y 3 8 (PreOf R mc ms Pc) (PostOf Qc mc ms free) (vx_Post XC mc ms free) := vx_backW (hh := hh) (bytes := bytes) (maxL := maxL) (ret := ret) hM hp.1 hrc hrs hfr hlo hws hcw (fun a' U hW => word_at hW (Or.inl (by first | rfl | simp [Cond.onTables, Cond.keeps, Cond.steady])) hini)
  obtain ⟨hx, hb, hml, ho, -⟩ := S
  intro T hT X
  rcases vx_callSX X hx (hh := hh) (bytes := bytes) (maxL := maxL) (ret := ret) ho hl hstt hini hcode hy hK hg (hsize.trans hml.symm) (argsL := As) (rest := rest) (fun sig h => hn.trans (hlen sig h)) hstack hW (by rw [hb]; exact hdg)
    (fun vm₁ hW₁ => ⟨hf.1, hf.2, hp.2 (T.setVm vm₁) hT hW₁⟩) with ⟨v, vm₁, ⟨U', l2, c2, s2⟩, hW₁, X', ⟨g', mk, t, L, e1, e2, hq, h1, hL, h2, h3⟩, st⟩ | ⟨q, vm₁, ⟨U', l2, c2, s2⟩, hW₁, X', ⟨g', mk, t, L, E, ce, e1, e2, hq, hce, hcv, hcl, h1, hL, h2, h3⟩, st⟩
  · dsimp only [Pt.U, Pt.locs, Pt.cells, Pt.slots] at X' e1 e2 h1 h2 h3 st
    subst h1; subst h2; subst h3
    exact Or.inl ⟨v, (T.setVm vm₁).calling g' mk As.toArray, t, U', L, hT, X', hL, e1, e2, hq, st⟩
  · dsimp only [Pt.U, Pt.locs, Pt.cells, Pt.slots] at X' e1 e2 h1 h2 h3 st hcl
    subst h1; subst h2; subst h3
    exact Or.inr ⟨q, (T.setVm vm₁).calling g' mk As.toArray, t, U', L, E, ce, hT, X', hL, e1, e2, hq, hce, hcv, vx_cls hW₁ hcl, st⟩
end
end VXH
theorem vx_ofWH {l : Launch} {y : MethodName} {ws ws' : List Cond} {rm : Room} {Pc : Array Value → State → Prop} {Qc : Array Value → State → Outcome → State → Prop} {XC : String → State → State → Prop} {mc ms : Nat} {free : Addr → Prop} {cc : ByteArray} {maxL : Nat} {ret : Option FieldType} {hh : List (Nat × Nat × Nat × Nat)}
    (hy : plainName y.cls = true) (hw : ws = Cond.codeWith y cc maxL ret hh :: ws')
    (body : ∀ p e s m args below meth c s₁, BodyLoose p l y (headSpec ws rm) cc maxL ret e s m args below meth c s₁ → c.maxLocals = maxL → Pc args s →
      W p l e (headSpec ws rm).room s m args below meth c s.heap [] 0 0 (vx_MQ below Qc XC args s mc ms free) (entryFrame m args maxL)) : vx_Met l y ws rm Pc Qc XC mc ms free := by
  refine MetFree.of_bodyS (code := cc) (maxLocals := maxL) (ret := ret) hy ?_ ?_
  · intro args s m h hn
    obtain ⟨m9, meth, c, hn9, h1, h2, h3, h4, -, h5, h6, -⟩ := Cond.codeWith_spec (atoms_spec (ws := ws) h _ (by rw [hw]; exact List.mem_cons_self))
    cases hn.symm.trans hn9
    exact ⟨meth, c, h1, h2, h3, h4, h5, h6⟩
  · intro p e s m args below meth c s₁ B hml hP _
    have hh0 : s₁.heap = s.heap := by rw [B.state]; rfl
    obtain ⟨t, a1, o, b1, b2, b3⟩ := body p e s m args below meth c s₁ B hml hP s₁ hh0 (Stand.of_body B)
    exact ⟨t, o, a1, b1, b2, b3⟩
/-! ===== END ===== -/
end
section
/-! names: classes, fields, methods; the common words -/
def RK : String := "CellProjection$Marks"
def RC : String := "CellProjection"
def RM : String := "CellProjectionModel"
def RL : String := "CellProjectionLaw"
def RJI : String := "java/lang/Integer"
def RJL : String := "java/lang/Long"
def RJM : String := "java/lang/Math"
def TK : u_T := fun k => match k with
  | 0 => ("CellProjection$Marks", "above", "[J", true)
  | 1 => ("CellProjection$Marks", "below", "[J", true)
  | _ => ("CellProjection$Marks", "count", "I", false)
def tyK : Nat → FieldType := fun k => match k with
  | 0 => .array .long
  | 1 => .array .long
  | _ => .int
theorem nmK : ∀ a, a < 3 → ∀ b, b < 3 → a ≠ b → (TK a).2.1 ≠ (TK b).2.1 := by decide +kernel
theorem tyK_ok : ∀ k, k < 3 → parseFieldDescriptor (TK k).2.2.1 = some (tyK k) := by decide +kernel
def TC : u_T := fun k => match k with
  | 0 => ("CellProjection", "a", "[I", true)
  | 1 => ("CellProjection", "b", "[I", true)
  | 2 => ("CellProjection", "c", "[I", true)
  | 3 => ("CellProjection", "lineCount", "I", false)
  | 4 => ("CellProjection", "cutMarks", "LCellProjection$Marks;", true)
  | 5 => ("CellProjection", "heights", "LCellProjection$Marks;", true)
  | 6 => ("CellProjection", "sampleAbove", "[J", true)
  | 7 => ("CellProjection", "sampleBelow", "[J", true)
  | 8 => ("CellProjection", "places", "[[I", true)
  | _ => ("CellProjection", "firstCell", "[I", true)
def tyC : Nat → FieldType := fun k => match k with
  | 0 => .array .int
  | 1 => .array .int
  | 2 => .array .int
  | 3 => .int
  | 4 => .object "CellProjection$Marks"
  | 5 => .object "CellProjection$Marks"
  | 6 => .array .long
  | 7 => .array .long
  | 8 => .array (.array .int)
  | _ => .array .int
theorem nmC : ∀ a, a < 10 → ∀ b, b < 10 → a ≠ b → (TC a).2.1 ≠ (TC b).2.1 := by decide +kernel
theorem tyC_ok : ∀ k, k < 10 → parseFieldDescriptor (TC k).2.2.1 = some (tyC k) := by decide +kernel
def TM : u_T := fun k => match k with
  | 0 => ("CellProjectionModel", "code", "I", false)
  | 1 => ("CellProjectionModel", "lines", "I", false)
  | 2 => ("CellProjectionModel", "numbers", "[I", true)
  | 3 => ("CellProjectionModel", "cuts", "I", false)
  | 4 => ("CellProjectionModel", "cutUp", "[J", true)
  | 5 => ("CellProjectionModel", "cutDown", "[J", true)
  | 6 => ("CellProjectionModel", "curves", "I", false)
  | 7 => ("CellProjectionModel", "yUp", "[J", true)
  | 8 => ("CellProjectionModel", "yDown", "[J", true)
  | 9 => ("CellProjectionModel", "up", "J", false)
  | 10 => ("CellProjectionModel", "down", "J", false)
  | 11 => ("CellProjectionModel", "xUp", "J", false)
  | 12 => ("CellProjectionModel", "xDown", "J", false)
  | 13 => ("CellProjectionModel", "strip", "I", false)
  | _ => ("CellProjectionModel", "place", "I", false)
def tyM : Nat → FieldType := fun k => match k with
  | 0 => .int
  | 1 => .int
  | 2 => .array .int
  | 3 => .int
  | 4 => .array .long
  | 5 => .array .long
  | 6 => .int
  | 7 => .array .long
  | 8 => .array .long
  | 9 => .long
  | 10 => .long
  | 11 => .long
  | 12 => .long
  | 13 => .int
  | _ => .int
theorem nmM : ∀ a, a < 15 → ∀ b, b < 15 → a ≠ b → (TM a).2.1 ≠ (TM b).2.1 := by decide +kernel
theorem tyM_ok : ∀ k, k < 15 → parseFieldDescriptor (TM k).2.2.1 = some (tyM k) := by decide +kernel
abbrev vwCl : List vw_C := [(RK, TK, 3), (RC, TC, 10), (RM, TM, 15)]
def y_C_init : MethodName := ⟨RC, "<init>", "()V"⟩
def y_K_init : MethodName := ⟨RK, "<init>", "()V"⟩
def y_C_rebuild : MethodName := ⟨RC, "rebuild", "()V"⟩
def y_C_gatherCuts : MethodName := ⟨RC, "gatherCuts", "()V"⟩
def y_C_addCut : MethodName := ⟨RC, "addCut", "(II)V"⟩
def y_K_insert : MethodName := ⟨RK, "insert", "(JJ)V"⟩
def y_K_pieceOf : MethodName := ⟨RK, "pieceOf", "(JJ)I"⟩
def y_JL_compare : MethodName := ⟨RJL, "compare", "(JJ)I"⟩
def y_C_stripCount : MethodName := ⟨RC, "stripCount", "()I"⟩
def y_C_layStrip : MethodName := ⟨RC, "layStrip", "(I)V"⟩
def y_K_samplePart : MethodName := ⟨RK, "samplePart", "(II)J"⟩
def y_K_reduced : MethodName := ⟨RK, "reduced", "(JJI)J"⟩
def y_JM_absJ : MethodName := ⟨RJM, "abs", "(J)J"⟩
def y_K_commonDivisor : MethodName := ⟨RK, "commonDivisor", "(JJ)J"⟩
def y_JM_maxJ : MethodName := ⟨RJM, "max", "(JJ)J"⟩
def y_C_measureHeights : MethodName := ⟨RC, "measureHeights", "(JJ)V"⟩
def y_C_heightAbove : MethodName := ⟨RC, "heightAbove", "(IJJ)J"⟩
def y_C_heightBelow : MethodName := ⟨RC, "heightBelow", "(IJ)J"⟩
def y_JM_absI : MethodName := ⟨RJM, "abs", "(I)I"⟩
def y_C_cuts : MethodName := ⟨RC, "cuts", "()I"⟩
def y_C_total : MethodName := ⟨RC, "total", "()I"⟩
def y_C_find : MethodName := ⟨RC, "find", "(I)I"⟩
def y_C_cellsOf : MethodName := ⟨RC, "cellsOf", "(I)I"⟩
def y_C_hasSigns : MethodName := ⟨RC, "hasSigns", "(III)Z"⟩
def y_C_signIn : MethodName := ⟨RC, "signIn", "(III)I"⟩
def y_JI_compare : MethodName := ⟨RJI, "compare", "(II)I"⟩
def y_C_wantFor : MethodName := ⟨RC, "wantFor", "(I)I"⟩
def y_C_lines : MethodName := ⟨RC, "lines", "()I"⟩
def y_L_line : MethodName := ⟨RL, "line", "(LCellProjection;III[J)I"⟩
def y_C_line : MethodName := ⟨RC, "line", "(III)I"⟩
def y_C_isFactor : MethodName := ⟨RC, "isFactor", "(I)Z"⟩
def y_L_drop : MethodName := ⟨RL, "drop", "(LCellProjection;I)I"⟩
def y_C_drop : MethodName := ⟨RC, "drop", "(I)V"⟩
def y_C_isLine : MethodName := ⟨RC, "isLine", "(I)Z"⟩
def y_L_cut : MethodName := ⟨RL, "cut", "(LCellProjection;II[J)I"⟩
def y_C_cut : MethodName := ⟨RC, "cut", "(II)J"⟩
def y_C_isPart : MethodName := ⟨RC, "isPart", "(I)Z"⟩
def y_L_curves : MethodName := ⟨RL, "curves", "(LCellProjection;I[J)I"⟩
def y_C_curves : MethodName := ⟨RC, "curves", "(I)I"⟩
def y_L_cell : MethodName := ⟨RL, "cell", "(LCellProjection;II[J)I"⟩
def y_C_cell : MethodName := ⟨RC, "cell", "(II)I"⟩
def y_C_isCell : MethodName := ⟨RC, "isCell", "(I)Z"⟩
def y_C_stripOf : MethodName := ⟨RC, "stripOf", "(I)I"⟩
def y_L_sample : MethodName := ⟨RL, "sample", "(LCellProjection;III[J)I"⟩
def y_C_sample : MethodName := ⟨RC, "sample", "(III)J"⟩
def y_L_sign : MethodName := ⟨RL, "sign", "(LCellProjection;II[J)I"⟩
def y_C_sign : MethodName := ⟨RC, "sign", "(II)I"⟩
def y_L_at : MethodName := ⟨RL, "at", "(LCellProjection;IIII[J)I"⟩
def y_C_at : MethodName := ⟨RC, "at", "(IIII)I"⟩
def y_C_isNear : MethodName := ⟨RC, "isNear", "(I)Z"⟩
def y_L_touch : MethodName := ⟨RL, "touch", "(LCellProjection;II[J)I"⟩
def y_C_touch : MethodName := ⟨RC, "touch", "(II)Z"⟩
def y_C_reaches : MethodName := ⟨RC, "reaches", "(IIII)Z"⟩
def y_M_init : MethodName := ⟨RM, "<init>", "()V"⟩
def y_M_thrown : MethodName := ⟨RM, "thrown", "()I"⟩
def y_M_line : MethodName := ⟨RM, "line", "(III)I"⟩
def y_M_in : MethodName := ⟨RM, "in", "(JJJ)Z"⟩
def y_M_look : MethodName := ⟨RM, "look", "()V"⟩
def y_M_lowest : MethodName := ⟨RM, "lowest", "(JJ)V"⟩
def y_M_keepCut : MethodName := ⟨RM, "keepCut", "()V"⟩
def y_M_drop : MethodName := ⟨RM, "drop", "(I)V"⟩
def y_M_lines : MethodName := ⟨RM, "lines", "()I"⟩
def y_M_cuts : MethodName := ⟨RM, "cuts", "()I"⟩
def y_M_cut : MethodName := ⟨RM, "cut", "(II)J"⟩
def y_M_curves : MethodName := ⟨RM, "curves", "(I)I"⟩
def y_M_curvesOf : MethodName := ⟨RM, "curvesOf", "(I)V"⟩
def y_M_sampleX : MethodName := ⟨RM, "sampleX", "(I)V"⟩
def y_M_findCurves : MethodName := ⟨RM, "findCurves", "()V"⟩
def y_M_lineAt : MethodName := ⟨RM, "lineAt", "(I)V"⟩
def y_M_below : MethodName := ⟨RM, "below", "()I"⟩
def y_M_total : MethodName := ⟨RM, "total", "()I"⟩
def y_M_cell : MethodName := ⟨RM, "cell", "(II)I"⟩
def y_M_isCell : MethodName := ⟨RM, "isCell", "(I)Z"⟩
def y_M_sample : MethodName := ⟨RM, "sample", "(III)J"⟩
def y_M_sampleY : MethodName := ⟨RM, "sampleY", "()V"⟩
def y_M_told : MethodName := ⟨RM, "told", "(I)J"⟩
def y_M_sign : MethodName := ⟨RM, "sign", "(II)I"⟩
def y_M_signAt : MethodName := ⟨RM, "signAt", "(I)I"⟩
def y_M_at : MethodName := ⟨RM, "at", "(IIII)I"⟩
def y_M_find : MethodName := ⟨RM, "find", "(I)I"⟩
def y_M_isSo : MethodName := ⟨RM, "isSo", "(I)Z"⟩
def y_M_touch : MethodName := ⟨RM, "touch", "(II)Z"⟩
def y_M_ends : MethodName := ⟨RM, "ends", "(III)I"⟩
def y_M_lineOf : MethodName := ⟨RM, "lineOf", "(II)I"⟩
def y_L_law : MethodName := ⟨RL, "law", "([I)Z"⟩
/-- the words that every method has -/
def cw : List Cond := lw_tbl.filter goodWord
theorem cw_t {w : Cond} (i : Nat) (h : tables_1[i]? = some w) (hg : goodWord w = true) : w ∈ cw := List.mem_filter.mpr ⟨List.mem_append_right _ (List.mem_of_getElem? h), hg⟩
theorem cw_s {w : Cond} (i : Nat) (h : (k2_sels lw_privs)[i]? = some w) (hg : goodWord w = true) : w ∈ cw := List.mem_filter.mpr ⟨List.mem_append_left _ (List.mem_of_getElem? h), hg⟩
theorem cw_in {w : Cond} (h : w ∈ cw) : w ∈ lw_tbl := (List.mem_filter.mp h).1
theorem cw_good : ∀ w ∈ cw, (w.onTables && w.keeps) = true ∨ ∃ ty, w = .arrayClass ty := fun w h => good_of_word (List.mem_filter.mp h).2
theorem cw_call {w : Cond} (h : w ∈ cw) : GoodIn cw (w :: cw) := fun v hv => (List.mem_cons.mp hv).elim (fun e => by rw [e]; exact ⟨h, cw_good w h⟩) (fun q => ⟨q, cw_good v q⟩)
theorem m_0 : (Cond.initialized "CellProjectionLaw") ∈ cw := cw_t 0 (by decide +kernel) (by decide +kernel)
theorem m_1 : (Cond.initialized "CellProjection") ∈ cw := cw_t 1 (by decide +kernel) (by decide +kernel)
theorem m_2 : (Cond.initialized "CellProjection$Marks") ∈ cw := cw_t 2 (by decide +kernel) (by decide +kernel)
theorem m_3 : (Cond.initialized "java/lang/Long") ∈ cw := cw_t 3 (by decide +kernel) (by decide +kernel)
theorem m_4 : (Cond.initialized "java/lang/Math") ∈ cw := cw_t 4 (by decide +kernel) (by decide +kernel)
theorem m_5 : (Cond.initialized "CellProjectionModel") ∈ cw := cw_t 5 (by decide +kernel) (by decide +kernel)
theorem m_6 : (Cond.initialized "java/lang/Throwable") ∈ cw := cw_t 6 (by decide +kernel) (by decide +kernel)
theorem m_7 : (Cond.initialized "java/lang/Exception") ∈ cw := cw_t 7 (by decide +kernel) (by decide +kernel)
theorem m_8 : (Cond.initialized "java/lang/RuntimeException") ∈ cw := cw_t 8 (by decide +kernel) (by decide +kernel)
theorem m_9 : (Cond.initialized "java/lang/IllegalArgumentException") ∈ cw := cw_t 9 (by decide +kernel) (by decide +kernel)
theorem m_10 : (Cond.initialized "java/lang/IllegalStateException") ∈ cw := cw_t 10 (by decide +kernel) (by decide +kernel)
theorem m_11 : (Cond.initialized "java/lang/IndexOutOfBoundsException") ∈ cw := cw_t 11 (by decide +kernel) (by decide +kernel)
theorem m_12 : (Cond.initialized "java/lang/Integer") ∈ cw := cw_t 12 (by decide +kernel) (by decide +kernel)
theorem m_13 : (Cond.classLink RL 8 "CellProjection") ∈ cw := cw_t 13 (by decide +kernel) (by decide +kernel)
theorem m_14 : (Cond.instantiable "CellProjection" 10) ∈ cw := cw_t 14 (by decide +kernel) (by decide +kernel)
theorem m_15 : (Cond.methodLink RL 50 y_C_init) ∈ cw := cw_t 15 (by decide +kernel) (by decide +kernel)
theorem m_16 : (Cond.instanceMethod y_C_init) ∈ cw := cw_t 16 (by decide +kernel) (by decide +kernel)
theorem m_17 : (Cond.code y_C_init prog_1_method_1_code 1 none) ∈ cw := cw_t 17 (by decide +kernel) (by decide +kernel)
theorem m_18 : (Cond.methodLink RC 3 objectInit) ∈ cw := cw_t 18 (by decide +kernel) (by decide +kernel)
theorem m_19 : (Cond.instanceMethod objectInit) ∈ cw := cw_t 19 (by decide +kernel) (by decide +kernel)
theorem m_20 : (Cond.code objectInit object_method_1_code 1 none) ∈ cw := cw_t 20 (by decide +kernel) (by decide +kernel)
theorem m_21 : (Cond.classLink RC 23 "CellProjection$Marks") ∈ cw := cw_t 21 (by decide +kernel) (by decide +kernel)
theorem m_22 : (Cond.instantiable "CellProjection$Marks" 3) ∈ cw := cw_t 22 (by decide +kernel) (by decide +kernel)
theorem m_23 : (Cond.methodLink RC 25 y_K_init) ∈ cw := cw_t 23 (by decide +kernel) (by decide +kernel)
theorem m_24 : (Cond.instanceMethod y_K_init) ∈ cw := cw_t 24 (by decide +kernel) (by decide +kernel)
theorem m_25 : (Cond.code y_K_init prog_2_method_1_code 1 none) ∈ cw := cw_t 25 (by decide +kernel) (by decide +kernel)
theorem m_26 : (Cond.methodLink RK 3 objectInit) ∈ cw := cw_t 26 (by decide +kernel) (by decide +kernel)
theorem m_27 : (Cond.fieldLink RK 9 "CellProjection$Marks" "above" "[J") ∈ cw := cw_t 27 (by decide +kernel) (by decide +kernel)
theorem m_28 : (Cond.fieldLink RK 15 "CellProjection$Marks" "below" "[J") ∈ cw := cw_t 28 (by decide +kernel) (by decide +kernel)
theorem m_29 : (Cond.fieldLink RK 18 "CellProjection$Marks" "count" "I") ∈ cw := cw_t 29 (by decide +kernel) (by decide +kernel)
theorem m_38 : (Cond.arrayClass .int) ∈ cw := cw_t 38 (by decide +kernel) (by decide +kernel)
theorem m_39 : (Cond.arrayClass .long) ∈ cw := cw_t 39 (by decide +kernel) (by decide +kernel)
theorem m_40 : (Cond.classLink RC 40 "[[I") ∈ cw := cw_t 40 (by decide +kernel) (by decide +kernel)
theorem m_42 : (Cond.methodLink RC 48 y_C_rebuild) ∈ cw := cw_t 42 (by decide +kernel) (by decide +kernel)
theorem m_44 : (Cond.instanceMethod y_C_rebuild) ∈ cw := cw_t 44 (by decide +kernel) (by decide +kernel)
theorem m_45 : (Cond.code y_C_rebuild prog_1_method_23_code 3 none) ∈ cw := cw_t 45 (by decide +kernel) (by decide +kernel)
theorem m_46 : (Cond.methodLink RC 145 y_C_gatherCuts) ∈ cw := cw_t 46 (by decide +kernel) (by decide +kernel)
theorem m_48 : (Cond.instanceMethod y_C_gatherCuts) ∈ cw := cw_t 48 (by decide +kernel) (by decide +kernel)
theorem m_49 : (Cond.code y_C_gatherCuts prog_1_method_24_code 3 none) ∈ cw := cw_t 49 (by decide +kernel) (by decide +kernel)
theorem m_50 : (Cond.methodLink RC 152 y_C_addCut) ∈ cw := cw_t 50 (by decide +kernel) (by decide +kernel)
theorem m_52 : (Cond.instanceMethod y_C_addCut) ∈ cw := cw_t 52 (by decide +kernel) (by decide +kernel)
theorem m_53 : (Cond.code y_C_addCut prog_1_method_25_code 3 none) ∈ cw := cw_t 53 (by decide +kernel) (by decide +kernel)
theorem m_54 : (Cond.methodLink RC 156 y_K_insert) ∈ cw := cw_t 54 (by decide +kernel) (by decide +kernel)
theorem m_55 : (Cond.instanceMethod y_K_insert) ∈ cw := cw_t 55 (by decide +kernel) (by decide +kernel)
theorem m_56 : (Cond.selects "CellProjection$Marks" y_K_insert y_K_insert) ∈ cw := cw_t 56 (by decide +kernel) (by decide +kernel)
theorem m_57 : (Cond.code y_K_insert prog_2_method_2_code 8 none) ∈ cw := cw_t 57 (by decide +kernel) (by decide +kernel)
theorem m_58 : (Cond.methodLink RK 22 y_K_pieceOf) ∈ cw := cw_t 58 (by decide +kernel) (by decide +kernel)
theorem m_59 : (Cond.instanceMethod y_K_pieceOf) ∈ cw := cw_t 59 (by decide +kernel) (by decide +kernel)
theorem m_60 : (Cond.selects "CellProjection$Marks" y_K_pieceOf y_K_pieceOf) ∈ cw := cw_t 60 (by decide +kernel) (by decide +kernel)
theorem m_61 : (Cond.code y_K_pieceOf prog_2_method_3_code 7 (some .int)) ∈ cw := cw_t 61 (by decide +kernel) (by decide +kernel)
theorem m_62 : (Cond.methodLink RK 26 y_JL_compare) ∈ cw := cw_t 62 (by decide +kernel) (by decide +kernel)
theorem m_63 : (Cond.static y_JL_compare) ∈ cw := cw_t 63 (by decide +kernel) (by decide +kernel)
theorem m_64 : (Cond.code y_JL_compare prog_10_method_42_code 4 (some .int)) ∈ cw := cw_t 64 (by decide +kernel) (by decide +kernel)
theorem m_65 : (Cond.methodLink RC 91 y_C_stripCount) ∈ cw := cw_t 65 (by decide +kernel) (by decide +kernel)
theorem m_67 : (Cond.instanceMethod y_C_stripCount) ∈ cw := cw_t 67 (by decide +kernel) (by decide +kernel)
theorem m_68 : (Cond.code y_C_stripCount prog_1_method_20_code 1 (some .int)) ∈ cw := cw_t 68 (by decide +kernel) (by decide +kernel)
theorem m_69 : (Cond.methodLink RC 148 y_C_layStrip) ∈ cw := cw_t 69 (by decide +kernel) (by decide +kernel)
theorem m_71 : (Cond.instanceMethod y_C_layStrip) ∈ cw := cw_t 71 (by decide +kernel) (by decide +kernel)
theorem m_72 : (Cond.code y_C_layStrip prog_1_method_26_code 7 none) ∈ cw := cw_t 72 (by decide +kernel) (by decide +kernel)
theorem m_73 : (Cond.methodLink RC 87 y_K_samplePart) ∈ cw := cw_t 73 (by decide +kernel) (by decide +kernel)
theorem m_74 : (Cond.instanceMethod y_K_samplePart) ∈ cw := cw_t 74 (by decide +kernel) (by decide +kernel)
theorem m_75 : (Cond.selects "CellProjection$Marks" y_K_samplePart y_K_samplePart) ∈ cw := cw_t 75 (by decide +kernel) (by decide +kernel)
theorem m_76 : (Cond.code y_K_samplePart prog_2_method_4_code 6 (some .long)) ∈ cw := cw_t 76 (by decide +kernel) (by decide +kernel)
theorem m_77 : (Cond.methodLink RK 31 y_K_reduced) ∈ cw := cw_t 77 (by decide +kernel) (by decide +kernel)
theorem m_78 : (Cond.static y_K_reduced) ∈ cw := cw_t 78 (by decide +kernel) (by decide +kernel)
theorem m_79 : (Cond.code y_K_reduced prog_2_method_5_code 7 (some .long)) ∈ cw := cw_t 79 (by decide +kernel) (by decide +kernel)
theorem m_80 : (Cond.methodLink RK 37 y_JM_absJ) ∈ cw := cw_t 80 (by decide +kernel) (by decide +kernel)
theorem m_81 : (Cond.static y_JM_absJ) ∈ cw := cw_t 81 (by decide +kernel) (by decide +kernel)
theorem m_82 : (Cond.code y_JM_absJ prog_11_method_61_code 2 (some .long)) ∈ cw := cw_t 82 (by decide +kernel) (by decide +kernel)
theorem m_83 : (Cond.methodLink RK 43 y_K_commonDivisor) ∈ cw := cw_t 83 (by decide +kernel) (by decide +kernel)
theorem m_84 : (Cond.static y_K_commonDivisor) ∈ cw := cw_t 84 (by decide +kernel) (by decide +kernel)
theorem m_85 : (Cond.code y_K_commonDivisor prog_2_method_6_code 11 (some .long)) ∈ cw := cw_t 85 (by decide +kernel) (by decide +kernel)
theorem m_86 : (Cond.methodLink RK 47 y_JM_maxJ) ∈ cw := cw_t 86 (by decide +kernel) (by decide +kernel)
theorem m_87 : (Cond.static y_JM_maxJ) ∈ cw := cw_t 87 (by decide +kernel) (by decide +kernel)
theorem m_88 : (Cond.code y_JM_maxJ prog_11_method_66_code 4 (some .long)) ∈ cw := cw_t 88 (by decide +kernel) (by decide +kernel)
theorem m_89 : (Cond.constantLong RK 35 2) ∈ cw := cw_t 89 (by decide +kernel) (by decide +kernel)
theorem m_90 : (Cond.methodLink RC 113 y_C_measureHeights) ∈ cw := cw_t 90 (by decide +kernel) (by decide +kernel)
theorem m_92 : (Cond.instanceMethod y_C_measureHeights) ∈ cw := cw_t 92 (by decide +kernel) (by decide +kernel)
theorem m_93 : (Cond.code y_C_measureHeights prog_1_method_27_code 6 none) ∈ cw := cw_t 93 (by decide +kernel) (by decide +kernel)
theorem m_94 : (Cond.methodLink RC 159 y_C_heightAbove) ∈ cw := cw_t 94 (by decide +kernel) (by decide +kernel)
theorem m_96 : (Cond.instanceMethod y_C_heightAbove) ∈ cw := cw_t 96 (by decide +kernel) (by decide +kernel)
theorem m_97 : (Cond.code y_C_heightAbove prog_1_method_28_code 8 (some .long)) ∈ cw := cw_t 97 (by decide +kernel) (by decide +kernel)
theorem m_98 : (Cond.methodLink RC 163 y_C_heightBelow) ∈ cw := cw_t 98 (by decide +kernel) (by decide +kernel)
theorem m_100 : (Cond.instanceMethod y_C_heightBelow) ∈ cw := cw_t 100 (by decide +kernel) (by decide +kernel)
theorem m_101 : (Cond.code y_C_heightBelow prog_1_method_29_code 4 (some .long)) ∈ cw := cw_t 101 (by decide +kernel) (by decide +kernel)
theorem m_102 : (Cond.methodLink RC 136 y_JM_absI) ∈ cw := cw_t 102 (by decide +kernel) (by decide +kernel)
theorem m_103 : (Cond.static y_JM_absI) ∈ cw := cw_t 103 (by decide +kernel) (by decide +kernel)
theorem m_104 : (Cond.code y_JM_absI prog_11_method_59_code 1 (some .int)) ∈ cw := cw_t 104 (by decide +kernel) (by decide +kernel)
theorem m_105 : (Cond.methodLink RC 128 y_K_pieceOf) ∈ cw := cw_t 105 (by decide +kernel) (by decide +kernel)
theorem m_106 : (Cond.fieldLink RC 9 "CellProjection" "a" "[I") ∈ cw := cw_t 106 (by decide +kernel) (by decide +kernel)
theorem m_107 : (Cond.fieldLink RC 13 "CellProjection" "b" "[I") ∈ cw := cw_t 107 (by decide +kernel) (by decide +kernel)
theorem m_108 : (Cond.fieldLink RC 16 "CellProjection" "c" "[I") ∈ cw := cw_t 108 (by decide +kernel) (by decide +kernel)
theorem m_109 : (Cond.fieldLink RC 19 "CellProjection" "lineCount" "I") ∈ cw := cw_t 109 (by decide +kernel) (by decide +kernel)
theorem m_110 : (Cond.fieldLink RC 26 "CellProjection" "cutMarks" "LCellProjection$Marks;") ∈ cw := cw_t 110 (by decide +kernel) (by decide +kernel)
theorem m_111 : (Cond.fieldLink RC 30 "CellProjection" "heights" "LCellProjection$Marks;") ∈ cw := cw_t 111 (by decide +kernel) (by decide +kernel)
theorem m_112 : (Cond.fieldLink RC 33 "CellProjection" "sampleAbove" "[J") ∈ cw := cw_t 112 (by decide +kernel) (by decide +kernel)
theorem m_113 : (Cond.fieldLink RC 37 "CellProjection" "sampleBelow" "[J") ∈ cw := cw_t 113 (by decide +kernel) (by decide +kernel)
theorem m_114 : (Cond.fieldLink RC 42 "CellProjection" "places" "[[I") ∈ cw := cw_t 114 (by decide +kernel) (by decide +kernel)
theorem m_115 : (Cond.fieldLink RC 45 "CellProjection" "firstCell" "[I") ∈ cw := cw_t 115 (by decide +kernel) (by decide +kernel)
theorem m_137 : (Cond.methodLink RL 68 y_C_cuts) ∈ cw := cw_t 137 (by decide +kernel) (by decide +kernel)
theorem m_138 : (Cond.instanceMethod y_C_cuts) ∈ cw := cw_t 138 (by decide +kernel) (by decide +kernel)
theorem m_139 : (Cond.selects "CellProjection" y_C_cuts y_C_cuts) ∈ cw := cw_t 139 (by decide +kernel) (by decide +kernel)
theorem m_140 : (Cond.code y_C_cuts prog_1_method_4_code 1 (some .int)) ∈ cw := cw_t 140 (by decide +kernel) (by decide +kernel)
theorem m_141 : (Cond.methodLink RL 80 y_C_total) ∈ cw := cw_t 141 (by decide +kernel) (by decide +kernel)
theorem m_142 : (Cond.instanceMethod y_C_total) ∈ cw := cw_t 142 (by decide +kernel) (by decide +kernel)
theorem m_143 : (Cond.selects "CellProjection" y_C_total y_C_total) ∈ cw := cw_t 143 (by decide +kernel) (by decide +kernel)
theorem m_144 : (Cond.code y_C_total prog_1_method_7_code 1 (some .int)) ∈ cw := cw_t 144 (by decide +kernel) (by decide +kernel)
theorem m_145 : (Cond.methodLink RL 97 y_C_find) ∈ cw := cw_t 145 (by decide +kernel) (by decide +kernel)
theorem m_146 : (Cond.instanceMethod y_C_find) ∈ cw := cw_t 146 (by decide +kernel) (by decide +kernel)
theorem m_147 : (Cond.selects "CellProjection" y_C_find y_C_find) ∈ cw := cw_t 147 (by decide +kernel) (by decide +kernel)
theorem m_148 : (Cond.code y_C_find prog_1_method_12_code 6 (some .int)) ∈ cw := cw_t 148 (by decide +kernel) (by decide +kernel)
theorem m_149 : (Cond.methodLink RC 97 y_C_cellsOf) ∈ cw := cw_t 149 (by decide +kernel) (by decide +kernel)
theorem m_151 : (Cond.instanceMethod y_C_cellsOf) ∈ cw := cw_t 151 (by decide +kernel) (by decide +kernel)
theorem m_152 : (Cond.code y_C_cellsOf prog_1_method_21_code 2 (some .int)) ∈ cw := cw_t 152 (by decide +kernel) (by decide +kernel)
theorem m_153 : (Cond.methodLink RC 132 y_C_hasSigns) ∈ cw := cw_t 153 (by decide +kernel) (by decide +kernel)
theorem m_155 : (Cond.instanceMethod y_C_hasSigns) ∈ cw := cw_t 155 (by decide +kernel) (by decide +kernel)
theorem m_156 : (Cond.code y_C_hasSigns prog_1_method_31_code 6 (some .boolean)) ∈ cw := cw_t 156 (by decide +kernel) (by decide +kernel)
theorem m_157 : (Cond.methodLink RC 117 y_C_signIn) ∈ cw := cw_t 157 (by decide +kernel) (by decide +kernel)
theorem m_159 : (Cond.instanceMethod y_C_signIn) ∈ cw := cw_t 159 (by decide +kernel) (by decide +kernel)
theorem m_160 : (Cond.code y_C_signIn prog_1_method_30_code 5 (some .int)) ∈ cw := cw_t 160 (by decide +kernel) (by decide +kernel)
theorem m_161 : (Cond.methodLink RC 167 y_JL_compare) ∈ cw := cw_t 161 (by decide +kernel) (by decide +kernel)
theorem m_162 : (Cond.methodLink RC 172 y_JI_compare) ∈ cw := cw_t 162 (by decide +kernel) (by decide +kernel)
theorem m_163 : (Cond.static y_JI_compare) ∈ cw := cw_t 163 (by decide +kernel) (by decide +kernel)
theorem m_164 : (Cond.code y_JI_compare prog_9_method_40_code 2 (some .int)) ∈ cw := cw_t 164 (by decide +kernel) (by decide +kernel)
theorem m_165 : (Cond.methodLink RC 177 y_C_wantFor) ∈ cw := cw_t 165 (by decide +kernel) (by decide +kernel)
theorem m_166 : (Cond.static y_C_wantFor) ∈ cw := cw_t 166 (by decide +kernel) (by decide +kernel)
theorem m_167 : (Cond.code y_C_wantFor prog_1_method_32_code 1 (some .int)) ∈ cw := cw_t 167 (by decide +kernel) (by decide +kernel)
theorem m_168 : (Cond.methodLink RL 104 y_C_lines) ∈ cw := cw_t 168 (by decide +kernel) (by decide +kernel)
theorem m_169 : (Cond.instanceMethod y_C_lines) ∈ cw := cw_t 169 (by decide +kernel) (by decide +kernel)
theorem m_170 : (Cond.selects "CellProjection" y_C_lines y_C_lines) ∈ cw := cw_t 170 (by decide +kernel) (by decide +kernel)
theorem m_171 : (Cond.code y_C_lines prog_1_method_14_code 1 (some .int)) ∈ cw := cw_t 171 (by decide +kernel) (by decide +kernel)
theorem m_172 : (Cond.methodLink RL 54 y_L_line) ∈ cw := cw_t 172 (by decide +kernel) (by decide +kernel)
theorem m_173 : (Cond.static y_L_line) ∈ cw := cw_t 173 (by decide +kernel) (by decide +kernel)
theorem m_174 : (Cond.codeWith y_L_line method_3_code 6 (some .int) [(0, 12, 15, 13), (0, 12, 19, 15)]) ∈ cw := cw_t 174 (by decide +kernel) (by decide +kernel)
theorem m_175 : (Cond.classLink RL 13 "java/lang/IllegalArgumentException") ∈ cw := cw_t 175 (by decide +kernel) (by decide +kernel)
theorem m_176 : (Cond.classLink RL 15 "java/lang/IllegalStateException") ∈ cw := cw_t 176 (by decide +kernel) (by decide +kernel)
theorem m_177 : (Cond.methodLink RL 7 y_C_line) ∈ cw := cw_t 177 (by decide +kernel) (by decide +kernel)
theorem m_178 : (Cond.instanceMethod y_C_line) ∈ cw := cw_t 178 (by decide +kernel) (by decide +kernel)
theorem m_179 : (Cond.selects "CellProjection" y_C_line y_C_line) ∈ cw := cw_t 179 (by decide +kernel) (by decide +kernel)
theorem m_180 : (Cond.code y_C_line prog_1_method_2_code 5 (some .int)) ∈ cw := cw_t 180 (by decide +kernel) (by decide +kernel)
theorem m_181 : (Cond.methodLink RC 51 y_C_isFactor) ∈ cw := cw_t 181 (by decide +kernel) (by decide +kernel)
theorem m_182 : (Cond.static y_C_isFactor) ∈ cw := cw_t 182 (by decide +kernel) (by decide +kernel)
theorem m_183 : (Cond.code y_C_isFactor prog_1_method_15_code 1 (some .boolean)) ∈ cw := cw_t 183 (by decide +kernel) (by decide +kernel)
theorem m_184 : (Cond.classLink RC 55 "java/lang/IllegalArgumentException") ∈ cw := cw_t 184 (by decide +kernel) (by decide +kernel)
theorem m_185 : (Cond.instantiable "java/lang/IllegalArgumentException" 6) ∈ cw := cw_t 185 (by decide +kernel) (by decide +kernel)
theorem m_193 : (Cond.selects "java/lang/IllegalArgumentException" ⟨"java/lang/Throwable", "fillInStackTrace", "(I)Ljava/lang/Throwable;"⟩ ⟨"java/lang/Throwable", "fillInStackTrace", "(I)Ljava/lang/Throwable;"⟩) ∈ cw := cw_t 193 (by decide +kernel) (by decide +kernel)
theorem m_194 : (Cond.selects "java/lang/IllegalArgumentException" ⟨"java/lang/Throwable", "fillInStackTrace", "()Ljava/lang/Throwable;"⟩ ⟨"java/lang/Throwable", "fillInStackTrace", "()Ljava/lang/Throwable;"⟩) ∈ cw := cw_t 194 (by decide +kernel) (by decide +kernel)
theorem m_205 : (Cond.fieldLink "java/lang/Throwable" 198 "java/lang/Throwable" "backtrace" "Ljava/lang/Object;") ∈ cw := cw_t 205 (by decide +kernel) (by decide +kernel)
theorem m_207 : (Cond.instanceMethod ⟨"java/lang/Throwable", "<init>", "()V"⟩) ∈ cw := cw_t 207 (by decide +kernel) (by decide +kernel)
theorem m_208 : (Cond.code ⟨"java/lang/Throwable", "<init>", "()V"⟩ prog_14_method_1_code 1 none) ∈ cw := cw_t 208 (by decide +kernel) (by decide +kernel)
theorem m_209 : (Cond.methodLink "java/lang/Throwable" 1 objectInit) ∈ cw := cw_t 209 (by decide +kernel) (by decide +kernel)
theorem m_210 : (Cond.fieldLink "java/lang/Throwable" 13 "java/lang/Throwable" "UNASSIGNED_STACK" "[Ljava/lang/StackTraceElement;") ∈ cw := cw_t 210 (by decide +kernel) (by decide +kernel)
theorem m_212 : (Cond.fieldLink "java/lang/Throwable" 20 "java/lang/Throwable" "SUPPRESSED_SENTINEL" "Ljava/util/List;") ∈ cw := cw_t 212 (by decide +kernel) (by decide +kernel)
theorem m_214 : (Cond.methodLink "java/lang/Throwable" 27 ⟨"java/lang/Throwable", "fillInStackTrace", "()Ljava/lang/Throwable;"⟩) ∈ cw := cw_t 214 (by decide +kernel) (by decide +kernel)
theorem m_215 : (Cond.instanceMethod ⟨"java/lang/Throwable", "fillInStackTrace", "()Ljava/lang/Throwable;"⟩) ∈ cw := cw_t 215 (by decide +kernel) (by decide +kernel)
theorem m_217 : (Cond.selects "java/lang/IllegalStateException" ⟨"java/lang/Throwable", "fillInStackTrace", "()Ljava/lang/Throwable;"⟩ ⟨"java/lang/Throwable", "fillInStackTrace", "()Ljava/lang/Throwable;"⟩) ∈ cw := cw_t 217 (by decide +kernel) (by decide +kernel)
theorem m_218 : (Cond.selects "java/lang/IndexOutOfBoundsException" ⟨"java/lang/Throwable", "fillInStackTrace", "()Ljava/lang/Throwable;"⟩ ⟨"java/lang/Throwable", "fillInStackTrace", "()Ljava/lang/Throwable;"⟩) ∈ cw := cw_t 218 (by decide +kernel) (by decide +kernel)
theorem m_220 : (Cond.methodLink "java/lang/Throwable" 202 ⟨"java/lang/Throwable", "fillInStackTrace", "(I)Ljava/lang/Throwable;"⟩) ∈ cw := cw_t 220 (by decide +kernel) (by decide +kernel)
theorem m_222 : (Cond.instanceMethod ⟨"java/lang/Throwable", "fillInStackTrace", "(I)Ljava/lang/Throwable;"⟩) ∈ cw := cw_t 222 (by decide +kernel) (by decide +kernel)
theorem m_223 : (Cond.instantiable "java/lang/Throwable" 6) ∈ cw := cw_t 223 (by decide +kernel) (by decide +kernel)
theorem m_226 : (Cond.methodLink RC 59 ⟨"java/lang/IllegalArgumentException", "<init>", "(Ljava/lang/String;)V"⟩) ∈ cw := cw_t 226 (by decide +kernel) (by decide +kernel)
theorem m_227 : (Cond.instanceMethod ⟨"java/lang/IllegalArgumentException", "<init>", "(Ljava/lang/String;)V"⟩) ∈ cw := cw_t 227 (by decide +kernel) (by decide +kernel)
theorem m_228 : (Cond.code ⟨"java/lang/IllegalArgumentException", "<init>", "(Ljava/lang/String;)V"⟩ prog_6_method_2_code 2 none) ∈ cw := cw_t 228 (by decide +kernel) (by decide +kernel)
theorem m_229 : (Cond.methodLink "java/lang/IllegalArgumentException" 7 ⟨"java/lang/RuntimeException", "<init>", "(Ljava/lang/String;)V"⟩) ∈ cw := cw_t 229 (by decide +kernel) (by decide +kernel)
theorem m_230 : (Cond.instanceMethod ⟨"java/lang/RuntimeException", "<init>", "(Ljava/lang/String;)V"⟩) ∈ cw := cw_t 230 (by decide +kernel) (by decide +kernel)
theorem m_231 : (Cond.code ⟨"java/lang/RuntimeException", "<init>", "(Ljava/lang/String;)V"⟩ prog_12_method_2_code 2 none) ∈ cw := cw_t 231 (by decide +kernel) (by decide +kernel)
theorem m_232 : (Cond.methodLink "java/lang/RuntimeException" 7 ⟨"java/lang/Exception", "<init>", "(Ljava/lang/String;)V"⟩) ∈ cw := cw_t 232 (by decide +kernel) (by decide +kernel)
theorem m_233 : (Cond.instanceMethod ⟨"java/lang/Exception", "<init>", "(Ljava/lang/String;)V"⟩) ∈ cw := cw_t 233 (by decide +kernel) (by decide +kernel)
theorem m_234 : (Cond.code ⟨"java/lang/Exception", "<init>", "(Ljava/lang/String;)V"⟩ prog_5_method_2_code 2 none) ∈ cw := cw_t 234 (by decide +kernel) (by decide +kernel)
theorem m_235 : (Cond.methodLink "java/lang/Exception" 7 ⟨"java/lang/Throwable", "<init>", "(Ljava/lang/String;)V"⟩) ∈ cw := cw_t 235 (by decide +kernel) (by decide +kernel)
theorem m_236 : (Cond.instanceMethod ⟨"java/lang/Throwable", "<init>", "(Ljava/lang/String;)V"⟩) ∈ cw := cw_t 236 (by decide +kernel) (by decide +kernel)
theorem m_237 : (Cond.code ⟨"java/lang/Throwable", "<init>", "(Ljava/lang/String;)V"⟩ prog_14_method_2_code 2 none) ∈ cw := cw_t 237 (by decide +kernel) (by decide +kernel)
theorem m_238 : (Cond.fieldLink "java/lang/Throwable" 198 "java/lang/Throwable" "backtrace" "Ljava/lang/Object;") ∈ cw := cw_t 238 (by decide +kernel) (by decide +kernel)
theorem m_239 : (Cond.fieldLink "java/lang/Throwable" 31 "java/lang/Throwable" "detailMessage" "Ljava/lang/String;") ∈ cw := cw_t 239 (by decide +kernel) (by decide +kernel)
theorem m_240 : (Cond.fieldLink "java/lang/Throwable" 7 "java/lang/Throwable" "cause" "Ljava/lang/Throwable;") ∈ cw := cw_t 240 (by decide +kernel) (by decide +kernel)
theorem m_241 : (Cond.fieldLink "java/lang/Throwable" 17 "java/lang/Throwable" "stackTrace" "[Ljava/lang/StackTraceElement;") ∈ cw := cw_t 241 (by decide +kernel) (by decide +kernel)
theorem m_242 : (Cond.fieldLink "java/lang/Throwable" 24 "java/lang/Throwable" "suppressedExceptions" "Ljava/util/List;") ∈ cw := cw_t 242 (by decide +kernel) (by decide +kernel)
theorem m_251 : (Cond.arrayClass .byte) ∈ cw := cw_t 251 (by decide +kernel) (by decide +kernel)
theorem m_253 : (Cond.classLink RC 64 "java/lang/IllegalStateException") ∈ cw := cw_t 253 (by decide +kernel) (by decide +kernel)
theorem m_254 : (Cond.instantiable "java/lang/IllegalStateException" 6) ∈ cw := cw_t 254 (by decide +kernel) (by decide +kernel)
theorem m_256 : (Cond.selects "java/lang/IllegalStateException" ⟨"java/lang/Throwable", "fillInStackTrace", "(I)Ljava/lang/Throwable;"⟩ ⟨"java/lang/Throwable", "fillInStackTrace", "(I)Ljava/lang/Throwable;"⟩) ∈ cw := cw_t 256 (by decide +kernel) (by decide +kernel)
theorem m_263 : (Cond.methodLink RC 68 ⟨"java/lang/IllegalStateException", "<init>", "(Ljava/lang/String;)V"⟩) ∈ cw := cw_t 263 (by decide +kernel) (by decide +kernel)
theorem m_264 : (Cond.instanceMethod ⟨"java/lang/IllegalStateException", "<init>", "(Ljava/lang/String;)V"⟩) ∈ cw := cw_t 264 (by decide +kernel) (by decide +kernel)
theorem m_265 : (Cond.code ⟨"java/lang/IllegalStateException", "<init>", "(Ljava/lang/String;)V"⟩ prog_7_method_2_code 2 none) ∈ cw := cw_t 265 (by decide +kernel) (by decide +kernel)
theorem m_266 : (Cond.methodLink "java/lang/IllegalStateException" 7 ⟨"java/lang/RuntimeException", "<init>", "(Ljava/lang/String;)V"⟩) ∈ cw := cw_t 266 (by decide +kernel) (by decide +kernel)
theorem m_269 : (Cond.methodLink RL 64 y_L_drop) ∈ cw := cw_t 269 (by decide +kernel) (by decide +kernel)
theorem m_270 : (Cond.static y_L_drop) ∈ cw := cw_t 270 (by decide +kernel) (by decide +kernel)
theorem m_271 : (Cond.codeWith y_L_drop method_4_code 3 (some .int) [(0, 5, 8, 21)]) ∈ cw := cw_t 271 (by decide +kernel) (by decide +kernel)
theorem m_272 : (Cond.classLink RL 21 "java/lang/IndexOutOfBoundsException") ∈ cw := cw_t 272 (by decide +kernel) (by decide +kernel)
theorem m_273 : (Cond.methodLink RL 17 y_C_drop) ∈ cw := cw_t 273 (by decide +kernel) (by decide +kernel)
theorem m_274 : (Cond.instanceMethod y_C_drop) ∈ cw := cw_t 274 (by decide +kernel) (by decide +kernel)
theorem m_275 : (Cond.selects "CellProjection" y_C_drop y_C_drop) ∈ cw := cw_t 275 (by decide +kernel) (by decide +kernel)
theorem m_276 : (Cond.code y_C_drop prog_1_method_3_code 3 none) ∈ cw := cw_t 276 (by decide +kernel) (by decide +kernel)
theorem m_277 : (Cond.methodLink RC 69 y_C_isLine) ∈ cw := cw_t 277 (by decide +kernel) (by decide +kernel)
theorem m_279 : (Cond.instanceMethod y_C_isLine) ∈ cw := cw_t 279 (by decide +kernel) (by decide +kernel)
theorem m_280 : (Cond.code y_C_isLine prog_1_method_18_code 2 (some .boolean)) ∈ cw := cw_t 280 (by decide +kernel) (by decide +kernel)
theorem m_281 : (Cond.classLink RC 72 "java/lang/IndexOutOfBoundsException") ∈ cw := cw_t 281 (by decide +kernel) (by decide +kernel)
theorem m_282 : (Cond.instantiable "java/lang/IndexOutOfBoundsException" 6) ∈ cw := cw_t 282 (by decide +kernel) (by decide +kernel)
theorem m_284 : (Cond.selects "java/lang/IndexOutOfBoundsException" ⟨"java/lang/Throwable", "fillInStackTrace", "(I)Ljava/lang/Throwable;"⟩ ⟨"java/lang/Throwable", "fillInStackTrace", "(I)Ljava/lang/Throwable;"⟩) ∈ cw := cw_t 284 (by decide +kernel) (by decide +kernel)
theorem m_291 : (Cond.methodLink RC 76 ⟨"java/lang/IndexOutOfBoundsException", "<init>", "(Ljava/lang/String;)V"⟩) ∈ cw := cw_t 291 (by decide +kernel) (by decide +kernel)
theorem m_292 : (Cond.instanceMethod ⟨"java/lang/IndexOutOfBoundsException", "<init>", "(Ljava/lang/String;)V"⟩) ∈ cw := cw_t 292 (by decide +kernel) (by decide +kernel)
theorem m_293 : (Cond.code ⟨"java/lang/IndexOutOfBoundsException", "<init>", "(Ljava/lang/String;)V"⟩ prog_8_method_2_code 2 none) ∈ cw := cw_t 293 (by decide +kernel) (by decide +kernel)
theorem m_294 : (Cond.methodLink "java/lang/IndexOutOfBoundsException" 7 ⟨"java/lang/RuntimeException", "<init>", "(Ljava/lang/String;)V"⟩) ∈ cw := cw_t 294 (by decide +kernel) (by decide +kernel)
theorem m_297 : (Cond.methodLink RL 72 y_L_cut) ∈ cw := cw_t 297 (by decide +kernel) (by decide +kernel)
theorem m_298 : (Cond.static y_L_cut) ∈ cw := cw_t 298 (by decide +kernel) (by decide +kernel)
theorem m_299 : (Cond.codeWith y_L_cut method_5_code 5 (some .int) [(0, 9, 12, 21), (0, 9, 16, 13)]) ∈ cw := cw_t 299 (by decide +kernel) (by decide +kernel)
theorem m_300 : (Cond.methodLink RL 23 y_C_cut) ∈ cw := cw_t 300 (by decide +kernel) (by decide +kernel)
theorem m_301 : (Cond.instanceMethod y_C_cut) ∈ cw := cw_t 301 (by decide +kernel) (by decide +kernel)
theorem m_302 : (Cond.selects "CellProjection" y_C_cut y_C_cut) ∈ cw := cw_t 302 (by decide +kernel) (by decide +kernel)
theorem m_303 : (Cond.code y_C_cut prog_1_method_5_code 3 (some .long)) ∈ cw := cw_t 303 (by decide +kernel) (by decide +kernel)
theorem m_305 : (Cond.methodLink RC 82 y_C_isPart) ∈ cw := cw_t 305 (by decide +kernel) (by decide +kernel)
theorem m_306 : (Cond.static y_C_isPart) ∈ cw := cw_t 306 (by decide +kernel) (by decide +kernel)
theorem m_307 : (Cond.code y_C_isPart prog_1_method_17_code 1 (some .boolean)) ∈ cw := cw_t 307 (by decide +kernel) (by decide +kernel)
theorem m_309 : (Cond.methodLink RL 76 y_L_curves) ∈ cw := cw_t 309 (by decide +kernel) (by decide +kernel)
theorem m_310 : (Cond.static y_L_curves) ∈ cw := cw_t 310 (by decide +kernel) (by decide +kernel)
theorem m_311 : (Cond.codeWith y_L_curves method_6_code 4 (some .int) [(0, 9, 12, 21)]) ∈ cw := cw_t 311 (by decide +kernel) (by decide +kernel)
theorem m_312 : (Cond.methodLink RL 27 y_C_curves) ∈ cw := cw_t 312 (by decide +kernel) (by decide +kernel)
theorem m_313 : (Cond.instanceMethod y_C_curves) ∈ cw := cw_t 313 (by decide +kernel) (by decide +kernel)
theorem m_314 : (Cond.selects "CellProjection" y_C_curves y_C_curves) ∈ cw := cw_t 314 (by decide +kernel) (by decide +kernel)
theorem m_315 : (Cond.code y_C_curves prog_1_method_6_code 2 (some .int)) ∈ cw := cw_t 315 (by decide +kernel) (by decide +kernel)
theorem m_317 : (Cond.methodLink RL 84 y_L_cell) ∈ cw := cw_t 317 (by decide +kernel) (by decide +kernel)
theorem m_318 : (Cond.static y_L_cell) ∈ cw := cw_t 318 (by decide +kernel) (by decide +kernel)
theorem m_319 : (Cond.codeWith y_L_cell method_7_code 5 (some .int) [(0, 10, 13, 21), (0, 10, 17, 13)]) ∈ cw := cw_t 319 (by decide +kernel) (by decide +kernel)
theorem m_320 : (Cond.methodLink RL 31 y_C_cell) ∈ cw := cw_t 320 (by decide +kernel) (by decide +kernel)
theorem m_321 : (Cond.instanceMethod y_C_cell) ∈ cw := cw_t 321 (by decide +kernel) (by decide +kernel)
theorem m_322 : (Cond.selects "CellProjection" y_C_cell y_C_cell) ∈ cw := cw_t 322 (by decide +kernel) (by decide +kernel)
theorem m_323 : (Cond.code y_C_cell prog_1_method_8_code 5 (some .int)) ∈ cw := cw_t 323 (by decide +kernel) (by decide +kernel)
theorem m_324 : (Cond.methodLink RC 101 y_C_isCell) ∈ cw := cw_t 324 (by decide +kernel) (by decide +kernel)
theorem m_326 : (Cond.instanceMethod y_C_isCell) ∈ cw := cw_t 326 (by decide +kernel) (by decide +kernel)
theorem m_327 : (Cond.code y_C_isCell prog_1_method_19_code 2 (some .boolean)) ∈ cw := cw_t 327 (by decide +kernel) (by decide +kernel)
theorem m_329 : (Cond.methodLink RC 106 y_C_stripOf) ∈ cw := cw_t 329 (by decide +kernel) (by decide +kernel)
theorem m_331 : (Cond.instanceMethod y_C_stripOf) ∈ cw := cw_t 331 (by decide +kernel) (by decide +kernel)
theorem m_332 : (Cond.code y_C_stripOf prog_1_method_22_code 4 (some .int)) ∈ cw := cw_t 332 (by decide +kernel) (by decide +kernel)
theorem m_334 : (Cond.methodLink RL 87 y_L_sample) ∈ cw := cw_t 334 (by decide +kernel) (by decide +kernel)
theorem m_335 : (Cond.static y_L_sample) ∈ cw := cw_t 335 (by decide +kernel) (by decide +kernel)
theorem m_336 : (Cond.codeWith y_L_sample method_8_code 6 (some .int) [(0, 11, 14, 21), (0, 11, 18, 13)]) ∈ cw := cw_t 336 (by decide +kernel) (by decide +kernel)
theorem m_337 : (Cond.methodLink RL 35 y_C_sample) ∈ cw := cw_t 337 (by decide +kernel) (by decide +kernel)
theorem m_338 : (Cond.instanceMethod y_C_sample) ∈ cw := cw_t 338 (by decide +kernel) (by decide +kernel)
theorem m_339 : (Cond.selects "CellProjection" y_C_sample y_C_sample) ∈ cw := cw_t 339 (by decide +kernel) (by decide +kernel)
theorem m_340 : (Cond.code y_C_sample prog_1_method_9_code 5 (some .long)) ∈ cw := cw_t 340 (by decide +kernel) (by decide +kernel)
theorem m_342 : (Cond.methodLink RL 90 y_L_sign) ∈ cw := cw_t 342 (by decide +kernel) (by decide +kernel)
theorem m_343 : (Cond.static y_L_sign) ∈ cw := cw_t 343 (by decide +kernel) (by decide +kernel)
theorem m_344 : (Cond.codeWith y_L_sign method_9_code 5 (some .int) [(0, 10, 13, 21)]) ∈ cw := cw_t 344 (by decide +kernel) (by decide +kernel)
theorem m_345 : (Cond.methodLink RL 39 y_C_sign) ∈ cw := cw_t 345 (by decide +kernel) (by decide +kernel)
theorem m_346 : (Cond.instanceMethod y_C_sign) ∈ cw := cw_t 346 (by decide +kernel) (by decide +kernel)
theorem m_347 : (Cond.selects "CellProjection" y_C_sign y_C_sign) ∈ cw := cw_t 347 (by decide +kernel) (by decide +kernel)
theorem m_348 : (Cond.code y_C_sign prog_1_method_10_code 4 (some .int)) ∈ cw := cw_t 348 (by decide +kernel) (by decide +kernel)
theorem m_349 : (Cond.methodLink RL 93 y_L_at) ∈ cw := cw_t 349 (by decide +kernel) (by decide +kernel)
theorem m_350 : (Cond.static y_L_at) ∈ cw := cw_t 350 (by decide +kernel) (by decide +kernel)
theorem m_351 : (Cond.codeWith y_L_at method_10_code 7 (some .int) [(0, 14, 17, 13)]) ∈ cw := cw_t 351 (by decide +kernel) (by decide +kernel)
theorem m_352 : (Cond.methodLink RL 42 y_C_at) ∈ cw := cw_t 352 (by decide +kernel) (by decide +kernel)
theorem m_353 : (Cond.instanceMethod y_C_at) ∈ cw := cw_t 353 (by decide +kernel) (by decide +kernel)
theorem m_354 : (Cond.selects "CellProjection" y_C_at y_C_at) ∈ cw := cw_t 354 (by decide +kernel) (by decide +kernel)
theorem m_355 : (Cond.code y_C_at prog_1_method_11_code 5 (some .int)) ∈ cw := cw_t 355 (by decide +kernel) (by decide +kernel)
theorem m_356 : (Cond.methodLink RC 121 y_C_isNear) ∈ cw := cw_t 356 (by decide +kernel) (by decide +kernel)
theorem m_357 : (Cond.static y_C_isNear) ∈ cw := cw_t 357 (by decide +kernel) (by decide +kernel)
theorem m_358 : (Cond.code y_C_isNear prog_1_method_16_code 1 (some .boolean)) ∈ cw := cw_t 358 (by decide +kernel) (by decide +kernel)
theorem m_361 : (Cond.methodLink RL 101 y_L_touch) ∈ cw := cw_t 361 (by decide +kernel) (by decide +kernel)
theorem m_362 : (Cond.static y_L_touch) ∈ cw := cw_t 362 (by decide +kernel) (by decide +kernel)
theorem m_363 : (Cond.codeWith y_L_touch method_11_code 5 (some .int) [(0, 17, 20, 21)]) ∈ cw := cw_t 363 (by decide +kernel) (by decide +kernel)
theorem m_364 : (Cond.methodLink RL 46 y_C_touch) ∈ cw := cw_t 364 (by decide +kernel) (by decide +kernel)
theorem m_365 : (Cond.instanceMethod y_C_touch) ∈ cw := cw_t 365 (by decide +kernel) (by decide +kernel)
theorem m_366 : (Cond.selects "CellProjection" y_C_touch y_C_touch) ∈ cw := cw_t 366 (by decide +kernel) (by decide +kernel)
theorem m_367 : (Cond.code y_C_touch prog_1_method_13_code 7 (some .boolean)) ∈ cw := cw_t 367 (by decide +kernel) (by decide +kernel)
theorem m_368 : (Cond.methodLink RC 141 y_C_reaches) ∈ cw := cw_t 368 (by decide +kernel) (by decide +kernel)
theorem m_370 : (Cond.instanceMethod y_C_reaches) ∈ cw := cw_t 370 (by decide +kernel) (by decide +kernel)
theorem m_371 : (Cond.code y_C_reaches prog_1_method_33_code 8 (some .boolean)) ∈ cw := cw_t 371 (by decide +kernel) (by decide +kernel)
theorem m_372 : (Cond.classLink RL 51 "CellProjectionModel") ∈ cw := cw_t 372 (by decide +kernel) (by decide +kernel)
theorem m_373 : (Cond.instantiable "CellProjectionModel" 15) ∈ cw := cw_t 373 (by decide +kernel) (by decide +kernel)
theorem m_374 : (Cond.methodLink RL 53 y_M_init) ∈ cw := cw_t 374 (by decide +kernel) (by decide +kernel)
theorem m_375 : (Cond.instanceMethod y_M_init) ∈ cw := cw_t 375 (by decide +kernel) (by decide +kernel)
theorem m_376 : (Cond.code y_M_init prog_4_method_1_code 1 none) ∈ cw := cw_t 376 (by decide +kernel) (by decide +kernel)
theorem m_377 : (Cond.methodLink RM 1 objectInit) ∈ cw := cw_t 377 (by decide +kernel) (by decide +kernel)
theorem m_378 : (Cond.fieldLink RM 26 "CellProjectionModel" "code" "I") ∈ cw := cw_t 378 (by decide +kernel) (by decide +kernel)
theorem m_379 : (Cond.fieldLink RM 45 "CellProjectionModel" "lines" "I") ∈ cw := cw_t 379 (by decide +kernel) (by decide +kernel)
theorem m_380 : (Cond.fieldLink RM 7 "CellProjectionModel" "numbers" "[I") ∈ cw := cw_t 380 (by decide +kernel) (by decide +kernel)
theorem m_381 : (Cond.fieldLink RM 51 "CellProjectionModel" "cuts" "I") ∈ cw := cw_t 381 (by decide +kernel) (by decide +kernel)
theorem m_382 : (Cond.fieldLink RM 13 "CellProjectionModel" "cutUp" "[J") ∈ cw := cw_t 382 (by decide +kernel) (by decide +kernel)
theorem m_383 : (Cond.fieldLink RM 17 "CellProjectionModel" "cutDown" "[J") ∈ cw := cw_t 383 (by decide +kernel) (by decide +kernel)
theorem m_384 : (Cond.fieldLink RM 69 "CellProjectionModel" "curves" "I") ∈ cw := cw_t 384 (by decide +kernel) (by decide +kernel)
theorem m_385 : (Cond.fieldLink RM 20 "CellProjectionModel" "yUp" "[J") ∈ cw := cw_t 385 (by decide +kernel) (by decide +kernel)
theorem m_386 : (Cond.fieldLink RM 23 "CellProjectionModel" "yDown" "[J") ∈ cw := cw_t 386 (by decide +kernel) (by decide +kernel)
theorem m_387 : (Cond.fieldLink RM 30 "CellProjectionModel" "up" "J") ∈ cw := cw_t 387 (by decide +kernel) (by decide +kernel)
theorem m_388 : (Cond.fieldLink RM 34 "CellProjectionModel" "down" "J") ∈ cw := cw_t 388 (by decide +kernel) (by decide +kernel)
theorem m_389 : (Cond.fieldLink RM 63 "CellProjectionModel" "xUp" "J") ∈ cw := cw_t 389 (by decide +kernel) (by decide +kernel)
theorem m_390 : (Cond.fieldLink RM 66 "CellProjectionModel" "xDown" "J") ∈ cw := cw_t 390 (by decide +kernel) (by decide +kernel)
theorem m_391 : (Cond.fieldLink RM 89 "CellProjectionModel" "strip" "I") ∈ cw := cw_t 391 (by decide +kernel) (by decide +kernel)
theorem m_392 : (Cond.fieldLink RM 92 "CellProjectionModel" "place" "I") ∈ cw := cw_t 392 (by decide +kernel) (by decide +kernel)
theorem m_424 : (Cond.methodLink RL 60 y_M_thrown) ∈ cw := cw_t 424 (by decide +kernel) (by decide +kernel)
theorem m_425 : (Cond.instanceMethod y_M_thrown) ∈ cw := cw_t 425 (by decide +kernel) (by decide +kernel)
theorem m_426 : (Cond.selects "CellProjectionModel" y_M_thrown y_M_thrown) ∈ cw := cw_t 426 (by decide +kernel) (by decide +kernel)
theorem m_427 : (Cond.code y_M_thrown prog_4_method_2_code 1 (some .int)) ∈ cw := cw_t 427 (by decide +kernel) (by decide +kernel)
theorem m_428 : (Cond.methodLink RL 59 y_M_line) ∈ cw := cw_t 428 (by decide +kernel) (by decide +kernel)
theorem m_429 : (Cond.instanceMethod y_M_line) ∈ cw := cw_t 429 (by decide +kernel) (by decide +kernel)
theorem m_430 : (Cond.selects "CellProjectionModel" y_M_line y_M_line) ∈ cw := cw_t 430 (by decide +kernel) (by decide +kernel)
theorem m_431 : (Cond.code y_M_line prog_4_method_6_code 5 (some .int)) ∈ cw := cw_t 431 (by decide +kernel) (by decide +kernel)
theorem m_432 : (Cond.constantLong RM 37 (-6)) ∈ cw := cw_t 432 (by decide +kernel) (by decide +kernel)
theorem m_433 : (Cond.constantLong RM 39 6) ∈ cw := cw_t 433 (by decide +kernel) (by decide +kernel)
theorem m_434 : (Cond.methodLink RM 41 y_M_in) ∈ cw := cw_t 434 (by decide +kernel) (by decide +kernel)
theorem m_435 : (Cond.static y_M_in) ∈ cw := cw_t 435 (by decide +kernel) (by decide +kernel)
theorem m_436 : (Cond.code y_M_in prog_4_method_4_code 6 (some .boolean)) ∈ cw := cw_t 436 (by decide +kernel) (by decide +kernel)
theorem m_437 : (Cond.methodLink RM 48 y_M_look) ∈ cw := cw_t 437 (by decide +kernel) (by decide +kernel)
theorem m_439 : (Cond.instanceMethod y_M_look) ∈ cw := cw_t 439 (by decide +kernel) (by decide +kernel)
theorem m_440 : (Cond.code y_M_look prog_4_method_9_code 4 none) ∈ cw := cw_t 440 (by decide +kernel) (by decide +kernel)
theorem m_441 : (Cond.methodLink RM 54 y_M_lowest) ∈ cw := cw_t 441 (by decide +kernel) (by decide +kernel)
theorem m_443 : (Cond.instanceMethod y_M_lowest) ∈ cw := cw_t 443 (by decide +kernel) (by decide +kernel)
theorem m_444 : (Cond.code y_M_lowest prog_4_method_5_code 11 none) ∈ cw := cw_t 444 (by decide +kernel) (by decide +kernel)
theorem m_445 : (Cond.methodLink RM 58 y_M_keepCut) ∈ cw := cw_t 445 (by decide +kernel) (by decide +kernel)
theorem m_447 : (Cond.instanceMethod y_M_keepCut) ∈ cw := cw_t 447 (by decide +kernel) (by decide +kernel)
theorem m_448 : (Cond.code y_M_keepCut prog_4_method_10_code 3 none) ∈ cw := cw_t 448 (by decide +kernel) (by decide +kernel)
theorem m_449 : (Cond.methodLink RL 67 y_M_drop) ∈ cw := cw_t 449 (by decide +kernel) (by decide +kernel)
theorem m_450 : (Cond.instanceMethod y_M_drop) ∈ cw := cw_t 450 (by decide +kernel) (by decide +kernel)
theorem m_451 : (Cond.selects "CellProjectionModel" y_M_drop y_M_drop) ∈ cw := cw_t 451 (by decide +kernel) (by decide +kernel)
theorem m_452 : (Cond.code y_M_drop prog_4_method_7_code 3 none) ∈ cw := cw_t 452 (by decide +kernel) (by decide +kernel)
theorem m_453 : (Cond.methodLink RL 107 y_M_lines) ∈ cw := cw_t 453 (by decide +kernel) (by decide +kernel)
theorem m_454 : (Cond.instanceMethod y_M_lines) ∈ cw := cw_t 454 (by decide +kernel) (by decide +kernel)
theorem m_455 : (Cond.selects "CellProjectionModel" y_M_lines y_M_lines) ∈ cw := cw_t 455 (by decide +kernel) (by decide +kernel)
theorem m_456 : (Cond.code y_M_lines prog_4_method_8_code 1 (some .int)) ∈ cw := cw_t 456 (by decide +kernel) (by decide +kernel)
theorem m_457 : (Cond.methodLink RL 71 y_M_cuts) ∈ cw := cw_t 457 (by decide +kernel) (by decide +kernel)
theorem m_458 : (Cond.instanceMethod y_M_cuts) ∈ cw := cw_t 458 (by decide +kernel) (by decide +kernel)
theorem m_459 : (Cond.selects "CellProjectionModel" y_M_cuts y_M_cuts) ∈ cw := cw_t 459 (by decide +kernel) (by decide +kernel)
theorem m_460 : (Cond.code y_M_cuts prog_4_method_11_code 1 (some .int)) ∈ cw := cw_t 460 (by decide +kernel) (by decide +kernel)
theorem m_461 : (Cond.methodLink RL 75 y_M_cut) ∈ cw := cw_t 461 (by decide +kernel) (by decide +kernel)
theorem m_462 : (Cond.instanceMethod y_M_cut) ∈ cw := cw_t 462 (by decide +kernel) (by decide +kernel)
theorem m_463 : (Cond.selects "CellProjectionModel" y_M_cut y_M_cut) ∈ cw := cw_t 463 (by decide +kernel) (by decide +kernel)
theorem m_464 : (Cond.code y_M_cut prog_4_method_13_code 3 (some .long)) ∈ cw := cw_t 464 (by decide +kernel) (by decide +kernel)
theorem m_465 : (Cond.methodLink RL 79 y_M_curves) ∈ cw := cw_t 465 (by decide +kernel) (by decide +kernel)
theorem m_466 : (Cond.instanceMethod y_M_curves) ∈ cw := cw_t 466 (by decide +kernel) (by decide +kernel)
theorem m_467 : (Cond.selects "CellProjectionModel" y_M_curves y_M_curves) ∈ cw := cw_t 467 (by decide +kernel) (by decide +kernel)
theorem m_468 : (Cond.code y_M_curves prog_4_method_19_code 2 (some .int)) ∈ cw := cw_t 468 (by decide +kernel) (by decide +kernel)
theorem m_469 : (Cond.methodLink RM 86 y_M_curvesOf) ∈ cw := cw_t 469 (by decide +kernel) (by decide +kernel)
theorem m_471 : (Cond.instanceMethod y_M_curvesOf) ∈ cw := cw_t 471 (by decide +kernel) (by decide +kernel)
theorem m_472 : (Cond.code y_M_curvesOf prog_4_method_18_code 2 none) ∈ cw := cw_t 472 (by decide +kernel) (by decide +kernel)
theorem m_473 : (Cond.methodLink RM 80 y_M_sampleX) ∈ cw := cw_t 473 (by decide +kernel) (by decide +kernel)
theorem m_475 : (Cond.instanceMethod y_M_sampleX) ∈ cw := cw_t 475 (by decide +kernel) (by decide +kernel)
theorem m_476 : (Cond.code y_M_sampleX prog_4_method_14_code 3 none) ∈ cw := cw_t 476 (by decide +kernel) (by decide +kernel)
theorem m_477 : (Cond.constantLong RM 61 2) ∈ cw := cw_t 477 (by decide +kernel) (by decide +kernel)
theorem m_478 : (Cond.methodLink RM 83 y_M_findCurves) ∈ cw := cw_t 478 (by decide +kernel) (by decide +kernel)
theorem m_480 : (Cond.instanceMethod y_M_findCurves) ∈ cw := cw_t 480 (by decide +kernel) (by decide +kernel)
theorem m_481 : (Cond.code y_M_findCurves prog_4_method_16_code 4 none) ∈ cw := cw_t 481 (by decide +kernel) (by decide +kernel)
theorem m_482 : (Cond.methodLink RM 72 y_M_lineAt) ∈ cw := cw_t 482 (by decide +kernel) (by decide +kernel)
theorem m_484 : (Cond.instanceMethod y_M_lineAt) ∈ cw := cw_t 484 (by decide +kernel) (by decide +kernel)
theorem m_485 : (Cond.code y_M_lineAt prog_4_method_15_code 2 none) ∈ cw := cw_t 485 (by decide +kernel) (by decide +kernel)
theorem m_486 : (Cond.methodLink RM 76 y_M_below) ∈ cw := cw_t 486 (by decide +kernel) (by decide +kernel)
theorem m_488 : (Cond.instanceMethod y_M_below) ∈ cw := cw_t 488 (by decide +kernel) (by decide +kernel)
theorem m_489 : (Cond.code y_M_below prog_4_method_17_code 2 (some .int)) ∈ cw := cw_t 489 (by decide +kernel) (by decide +kernel)
theorem m_490 : (Cond.methodLink RL 83 y_M_total) ∈ cw := cw_t 490 (by decide +kernel) (by decide +kernel)
theorem m_491 : (Cond.instanceMethod y_M_total) ∈ cw := cw_t 491 (by decide +kernel) (by decide +kernel)
theorem m_492 : (Cond.selects "CellProjectionModel" y_M_total y_M_total) ∈ cw := cw_t 492 (by decide +kernel) (by decide +kernel)
theorem m_493 : (Cond.code y_M_total prog_4_method_20_code 3 (some .int)) ∈ cw := cw_t 493 (by decide +kernel) (by decide +kernel)
theorem m_494 : (Cond.methodLink RL 86 y_M_cell) ∈ cw := cw_t 494 (by decide +kernel) (by decide +kernel)
theorem m_495 : (Cond.instanceMethod y_M_cell) ∈ cw := cw_t 495 (by decide +kernel) (by decide +kernel)
theorem m_496 : (Cond.selects "CellProjectionModel" y_M_cell y_M_cell) ∈ cw := cw_t 496 (by decide +kernel) (by decide +kernel)
theorem m_497 : (Cond.code y_M_cell prog_4_method_22_code 3 (some .int)) ∈ cw := cw_t 497 (by decide +kernel) (by decide +kernel)
theorem m_498 : (Cond.methodLink RM 95 y_M_isCell) ∈ cw := cw_t 498 (by decide +kernel) (by decide +kernel)
theorem m_500 : (Cond.instanceMethod y_M_isCell) ∈ cw := cw_t 500 (by decide +kernel) (by decide +kernel)
theorem m_501 : (Cond.code y_M_isCell prog_4_method_21_code 4 (some .boolean)) ∈ cw := cw_t 501 (by decide +kernel) (by decide +kernel)
theorem m_502 : (Cond.methodLink RL 89 y_M_sample) ∈ cw := cw_t 502 (by decide +kernel) (by decide +kernel)
theorem m_503 : (Cond.instanceMethod y_M_sample) ∈ cw := cw_t 503 (by decide +kernel) (by decide +kernel)
theorem m_504 : (Cond.selects "CellProjectionModel" y_M_sample y_M_sample) ∈ cw := cw_t 504 (by decide +kernel) (by decide +kernel)
theorem m_505 : (Cond.code y_M_sample prog_4_method_24_code 4 (some .long)) ∈ cw := cw_t 505 (by decide +kernel) (by decide +kernel)
theorem m_506 : (Cond.methodLink RM 99 y_M_sampleY) ∈ cw := cw_t 506 (by decide +kernel) (by decide +kernel)
theorem m_508 : (Cond.instanceMethod y_M_sampleY) ∈ cw := cw_t 508 (by decide +kernel) (by decide +kernel)
theorem m_509 : (Cond.code y_M_sampleY prog_4_method_23_code 2 none) ∈ cw := cw_t 509 (by decide +kernel) (by decide +kernel)
theorem m_510 : (Cond.methodLink RM 102 y_M_told) ∈ cw := cw_t 510 (by decide +kernel) (by decide +kernel)
theorem m_512 : (Cond.instanceMethod y_M_told) ∈ cw := cw_t 512 (by decide +kernel) (by decide +kernel)
theorem m_513 : (Cond.code y_M_told prog_4_method_12_code 2 (some .long)) ∈ cw := cw_t 513 (by decide +kernel) (by decide +kernel)
theorem m_514 : (Cond.methodLink RL 92 y_M_sign) ∈ cw := cw_t 514 (by decide +kernel) (by decide +kernel)
theorem m_515 : (Cond.instanceMethod y_M_sign) ∈ cw := cw_t 515 (by decide +kernel) (by decide +kernel)
theorem m_516 : (Cond.selects "CellProjectionModel" y_M_sign y_M_sign) ∈ cw := cw_t 516 (by decide +kernel) (by decide +kernel)
theorem m_517 : (Cond.code y_M_sign prog_4_method_26_code 3 (some .int)) ∈ cw := cw_t 517 (by decide +kernel) (by decide +kernel)
theorem m_518 : (Cond.methodLink RM 106 y_M_signAt) ∈ cw := cw_t 518 (by decide +kernel) (by decide +kernel)
theorem m_520 : (Cond.instanceMethod y_M_signAt) ∈ cw := cw_t 520 (by decide +kernel) (by decide +kernel)
theorem m_521 : (Cond.code y_M_signAt prog_4_method_25_code 4 (some .int)) ∈ cw := cw_t 521 (by decide +kernel) (by decide +kernel)
theorem m_522 : (Cond.methodLink RL 96 y_M_at) ∈ cw := cw_t 522 (by decide +kernel) (by decide +kernel)
theorem m_523 : (Cond.instanceMethod y_M_at) ∈ cw := cw_t 523 (by decide +kernel) (by decide +kernel)
theorem m_524 : (Cond.selects "CellProjectionModel" y_M_at y_M_at) ∈ cw := cw_t 524 (by decide +kernel) (by decide +kernel)
theorem m_525 : (Cond.code y_M_at prog_4_method_27_code 9 (some .int)) ∈ cw := cw_t 525 (by decide +kernel) (by decide +kernel)
theorem m_526 : (Cond.constantLong RM 110 (-100)) ∈ cw := cw_t 526 (by decide +kernel) (by decide +kernel)
theorem m_527 : (Cond.constantLong RM 112 100) ∈ cw := cw_t 527 (by decide +kernel) (by decide +kernel)
theorem m_528 : (Cond.methodLink RL 100 y_M_find) ∈ cw := cw_t 528 (by decide +kernel) (by decide +kernel)
theorem m_529 : (Cond.instanceMethod y_M_find) ∈ cw := cw_t 529 (by decide +kernel) (by decide +kernel)
theorem m_530 : (Cond.selects "CellProjectionModel" y_M_find y_M_find) ∈ cw := cw_t 530 (by decide +kernel) (by decide +kernel)
theorem m_531 : (Cond.code y_M_find prog_4_method_28_code 4 (some .int)) ∈ cw := cw_t 531 (by decide +kernel) (by decide +kernel)
theorem m_532 : (Cond.methodLink RM 114 y_M_isSo) ∈ cw := cw_t 532 (by decide +kernel) (by decide +kernel)
theorem m_534 : (Cond.instanceMethod y_M_isSo) ∈ cw := cw_t 534 (by decide +kernel) (by decide +kernel)
theorem m_535 : (Cond.code y_M_isSo prog_4_method_29_code 4 (some .boolean)) ∈ cw := cw_t 535 (by decide +kernel) (by decide +kernel)
theorem m_536 : (Cond.methodLink RL 103 y_M_touch) ∈ cw := cw_t 536 (by decide +kernel) (by decide +kernel)
theorem m_537 : (Cond.instanceMethod y_M_touch) ∈ cw := cw_t 537 (by decide +kernel) (by decide +kernel)
theorem m_538 : (Cond.selects "CellProjectionModel" y_M_touch y_M_touch) ∈ cw := cw_t 538 (by decide +kernel) (by decide +kernel)
theorem m_539 : (Cond.code y_M_touch prog_4_method_32_code 13 (some .boolean)) ∈ cw := cw_t 539 (by decide +kernel) (by decide +kernel)
theorem m_540 : (Cond.constantLong RM 121 (-1)) ∈ cw := cw_t 540 (by decide +kernel) (by decide +kernel)
theorem m_541 : (Cond.methodLink RM 123 y_M_ends) ∈ cw := cw_t 541 (by decide +kernel) (by decide +kernel)
theorem m_543 : (Cond.instanceMethod y_M_ends) ∈ cw := cw_t 543 (by decide +kernel) (by decide +kernel)
theorem m_544 : (Cond.code y_M_ends prog_4_method_31_code 6 (some .int)) ∈ cw := cw_t 544 (by decide +kernel) (by decide +kernel)
theorem m_545 : (Cond.methodLink RM 117 y_M_lineOf) ∈ cw := cw_t 545 (by decide +kernel) (by decide +kernel)
theorem m_547 : (Cond.instanceMethod y_M_lineOf) ∈ cw := cw_t 547 (by decide +kernel) (by decide +kernel)
theorem m_548 : (Cond.code y_M_lineOf prog_4_method_30_code 4 (some .int)) ∈ cw := cw_t 548 (by decide +kernel) (by decide +kernel)
theorem s_0 : Cond.selects RC y_C_rebuild y_C_rebuild ∈ cw := cw_s 0 (by decide +kernel) (by decide +kernel)
theorem s_1 : Cond.selects RC y_C_gatherCuts y_C_gatherCuts ∈ cw := cw_s 1 (by decide +kernel) (by decide +kernel)
theorem s_2 : Cond.selects RC y_C_addCut y_C_addCut ∈ cw := cw_s 2 (by decide +kernel) (by decide +kernel)
theorem s_3 : Cond.selects RC y_C_stripCount y_C_stripCount ∈ cw := cw_s 3 (by decide +kernel) (by decide +kernel)
theorem s_4 : Cond.selects RC y_C_layStrip y_C_layStrip ∈ cw := cw_s 4 (by decide +kernel) (by decide +kernel)
theorem s_5 : Cond.selects RC y_C_measureHeights y_C_measureHeights ∈ cw := cw_s 5 (by decide +kernel) (by decide +kernel)
theorem s_6 : Cond.selects RC y_C_heightAbove y_C_heightAbove ∈ cw := cw_s 6 (by decide +kernel) (by decide +kernel)
theorem s_7 : Cond.selects RC y_C_heightBelow y_C_heightBelow ∈ cw := cw_s 7 (by decide +kernel) (by decide +kernel)
theorem s_8 : Cond.selects RC y_C_cellsOf y_C_cellsOf ∈ cw := cw_s 8 (by decide +kernel) (by decide +kernel)
theorem s_9 : Cond.selects RC y_C_hasSigns y_C_hasSigns ∈ cw := cw_s 9 (by decide +kernel) (by decide +kernel)
theorem s_10 : Cond.selects RC y_C_signIn y_C_signIn ∈ cw := cw_s 10 (by decide +kernel) (by decide +kernel)
theorem s_12 : Cond.selects RC y_C_isLine y_C_isLine ∈ cw := cw_s 12 (by decide +kernel) (by decide +kernel)
theorem s_13 : Cond.selects RC y_C_isCell y_C_isCell ∈ cw := cw_s 13 (by decide +kernel) (by decide +kernel)
theorem s_14 : Cond.selects RC y_C_stripOf y_C_stripOf ∈ cw := cw_s 14 (by decide +kernel) (by decide +kernel)
theorem s_15 : Cond.selects RC y_C_reaches y_C_reaches ∈ cw := cw_s 15 (by decide +kernel) (by decide +kernel)
theorem s_16 : Cond.selects RM y_M_look y_M_look ∈ cw := cw_s 16 (by decide +kernel) (by decide +kernel)
theorem s_17 : Cond.selects RM y_M_lowest y_M_lowest ∈ cw := cw_s 17 (by decide +kernel) (by decide +kernel)
theorem s_18 : Cond.selects RM y_M_keepCut y_M_keepCut ∈ cw := cw_s 18 (by decide +kernel) (by decide +kernel)
theorem s_19 : Cond.selects RM y_M_curvesOf y_M_curvesOf ∈ cw := cw_s 19 (by decide +kernel) (by decide +kernel)
theorem s_20 : Cond.selects RM y_M_sampleX y_M_sampleX ∈ cw := cw_s 20 (by decide +kernel) (by decide +kernel)
theorem s_21 : Cond.selects RM y_M_findCurves y_M_findCurves ∈ cw := cw_s 21 (by decide +kernel) (by decide +kernel)
theorem s_22 : Cond.selects RM y_M_lineAt y_M_lineAt ∈ cw := cw_s 22 (by decide +kernel) (by decide +kernel)
theorem s_23 : Cond.selects RM y_M_below y_M_below ∈ cw := cw_s 23 (by decide +kernel) (by decide +kernel)
theorem s_24 : Cond.selects RM y_M_isCell y_M_isCell ∈ cw := cw_s 24 (by decide +kernel) (by decide +kernel)
theorem s_25 : Cond.selects RM y_M_sampleY y_M_sampleY ∈ cw := cw_s 25 (by decide +kernel) (by decide +kernel)
theorem s_26 : Cond.selects RM y_M_told y_M_told ∈ cw := cw_s 26 (by decide +kernel) (by decide +kernel)
theorem s_27 : Cond.selects RM y_M_signAt y_M_signAt ∈ cw := cw_s 27 (by decide +kernel) (by decide +kernel)
theorem s_28 : Cond.selects RM y_M_isSo y_M_isSo ∈ cw := cw_s 28 (by decide +kernel) (by decide +kernel)
theorem s_29 : Cond.selects RM y_M_ends y_M_ends ∈ cw := cw_s 29 (by decide +kernel) (by decide +kernel)
theorem s_30 : Cond.selects RM y_M_lineOf y_M_lineOf ∈ cw := cw_s 30 (by decide +kernel) (by decide +kernel)
theorem i_K : ∀ w ∈ u_ws RK TK 3, w ∈ cw := by decide +kernel
theorem i_C : ∀ w ∈ u_ws RC TC 10, w ∈ cw := by decide +kernel
theorem i_M : ∀ w ∈ u_ws RM TM 15, w ∈ cw := by decide +kernel
end
section
theorem d_K_init_0 : decode prog_2_method_1_code 0 = .ok (.aload_n 0, 1) := by decide +kernel
theorem d_K_init_1 : decode prog_2_method_1_code 1 = .ok (.invokespecial 3, 3) := by decide +kernel
theorem d_K_init_4 : decode prog_2_method_1_code 4 = .ok (.aload_n 0, 1) := by decide +kernel
theorem d_K_init_5 : decode prog_2_method_1_code 5 = .ok (.bipush 15, 2) := by decide +kernel
theorem d_K_init_7 : decode prog_2_method_1_code 7 = .ok (.newarray .long, 2) := by decide +kernel
theorem d_K_init_9 : decode prog_2_method_1_code 9 = .ok (.putfield 9, 3) := by decide +kernel
theorem d_K_init_12 : decode prog_2_method_1_code 12 = .ok (.aload_n 0, 1) := by decide +kernel
theorem d_K_init_13 : decode prog_2_method_1_code 13 = .ok (.bipush 15, 2) := by decide +kernel
theorem d_K_init_15 : decode prog_2_method_1_code 15 = .ok (.newarray .long, 2) := by decide +kernel
theorem d_K_init_17 : decode prog_2_method_1_code 17 = .ok (.putfield 15, 3) := by decide +kernel
theorem d_K_init_20 : decode prog_2_method_1_code 20 = .ok (.aload_n 0, 1) := by decide +kernel
theorem d_K_init_21 : decode prog_2_method_1_code 21 = .ok (.iconst 0, 1) := by decide +kernel
theorem d_K_init_22 : decode prog_2_method_1_code 22 = .ok (.putfield 18, 3) := by decide +kernel
theorem d_K_init_25 : decode prog_2_method_1_code 25 = .ok (.return_, 1) := by decide +kernel
theorem d_K_insert_0 : decode prog_2_method_2_code 0 = .ok (.aload_n 0, 1) := by decide +kernel
theorem d_K_insert_1 : decode prog_2_method_2_code 1 = .ok (.lload_n 1, 1) := by decide +kernel
theorem d_K_insert_2 : decode prog_2_method_2_code 2 = .ok (.lload_n 3, 1) := by decide +kernel
theorem d_K_insert_3 : decode prog_2_method_2_code 3 = .ok (.invokevirtual 22, 3) := by decide +kernel
theorem d_K_insert_6 : decode prog_2_method_2_code 6 = .ok (.istore 5, 2) := by decide +kernel
theorem d_K_insert_8 : decode prog_2_method_2_code 8 = .ok (.iload 5, 2) := by decide +kernel
theorem d_K_insert_10 : decode prog_2_method_2_code 10 = .ok (.iconst 2, 1) := by decide +kernel
theorem d_K_insert_11 : decode prog_2_method_2_code 11 = .ok (.irem, 1) := by decide +kernel
theorem d_K_insert_12 : decode prog_2_method_2_code 12 = .ok (.iconst 1, 1) := by decide +kernel
theorem d_K_insert_13 : decode prog_2_method_2_code 13 = .ok (.if_icmp .eq 12, 3) := by decide +kernel
theorem d_K_insert_16 : decode prog_2_method_2_code 16 = .ok (.aload_n 0, 1) := by decide +kernel
theorem d_K_insert_17 : decode prog_2_method_2_code 17 = .ok (.getfield 18, 3) := by decide +kernel
theorem d_K_insert_20 : decode prog_2_method_2_code 20 = .ok (.bipush 15, 2) := by decide +kernel
theorem d_K_insert_22 : decode prog_2_method_2_code 22 = .ok (.if_icmp .lt 4, 3) := by decide +kernel
theorem d_K_insert_25 : decode prog_2_method_2_code 25 = .ok (.return_, 1) := by decide +kernel
theorem d_K_insert_26 : decode prog_2_method_2_code 26 = .ok (.iload 5, 2) := by decide +kernel
theorem d_K_insert_28 : decode prog_2_method_2_code 28 = .ok (.iconst 2, 1) := by decide +kernel
theorem d_K_insert_29 : decode prog_2_method_2_code 29 = .ok (.idiv, 1) := by decide +kernel
theorem d_K_insert_30 : decode prog_2_method_2_code 30 = .ok (.istore 6, 2) := by decide +kernel
theorem d_K_insert_32 : decode prog_2_method_2_code 32 = .ok (.aload_n 0, 1) := by decide +kernel
theorem d_K_insert_33 : decode prog_2_method_2_code 33 = .ok (.getfield 18, 3) := by decide +kernel
theorem d_K_insert_36 : decode prog_2_method_2_code 36 = .ok (.istore 7, 2) := by decide +kernel
theorem d_K_insert_38 : decode prog_2_method_2_code 38 = .ok (.iload 7, 2) := by decide +kernel
theorem d_K_insert_40 : decode prog_2_method_2_code 40 = .ok (.iload 6, 2) := by decide +kernel
theorem d_K_insert_42 : decode prog_2_method_2_code 42 = .ok (.if_icmp .le 41, 3) := by decide +kernel
theorem d_K_insert_45 : decode prog_2_method_2_code 45 = .ok (.aload_n 0, 1) := by decide +kernel
theorem d_K_insert_46 : decode prog_2_method_2_code 46 = .ok (.getfield 9, 3) := by decide +kernel
theorem d_K_insert_49 : decode prog_2_method_2_code 49 = .ok (.iload 7, 2) := by decide +kernel
theorem d_K_insert_51 : decode prog_2_method_2_code 51 = .ok (.aload_n 0, 1) := by decide +kernel
theorem d_K_insert_52 : decode prog_2_method_2_code 52 = .ok (.getfield 9, 3) := by decide +kernel
theorem d_K_insert_55 : decode prog_2_method_2_code 55 = .ok (.iload 7, 2) := by decide +kernel
theorem d_K_insert_57 : decode prog_2_method_2_code 57 = .ok (.iconst 1, 1) := by decide +kernel
theorem d_K_insert_58 : decode prog_2_method_2_code 58 = .ok (.isub, 1) := by decide +kernel
theorem d_K_insert_59 : decode prog_2_method_2_code 59 = .ok (.laload, 1) := by decide +kernel
theorem d_K_insert_60 : decode prog_2_method_2_code 60 = .ok (.lastore, 1) := by decide +kernel
theorem d_K_insert_61 : decode prog_2_method_2_code 61 = .ok (.aload_n 0, 1) := by decide +kernel
theorem d_K_insert_62 : decode prog_2_method_2_code 62 = .ok (.getfield 15, 3) := by decide +kernel
theorem d_K_insert_65 : decode prog_2_method_2_code 65 = .ok (.iload 7, 2) := by decide +kernel
theorem d_K_insert_67 : decode prog_2_method_2_code 67 = .ok (.aload_n 0, 1) := by decide +kernel
theorem d_K_insert_68 : decode prog_2_method_2_code 68 = .ok (.getfield 15, 3) := by decide +kernel
theorem d_K_insert_71 : decode prog_2_method_2_code 71 = .ok (.iload 7, 2) := by decide +kernel
theorem d_K_insert_73 : decode prog_2_method_2_code 73 = .ok (.iconst 1, 1) := by decide +kernel
theorem d_K_insert_74 : decode prog_2_method_2_code 74 = .ok (.isub, 1) := by decide +kernel
theorem d_K_insert_75 : decode prog_2_method_2_code 75 = .ok (.laload, 1) := by decide +kernel
theorem d_K_insert_76 : decode prog_2_method_2_code 76 = .ok (.lastore, 1) := by decide +kernel
theorem d_K_insert_77 : decode prog_2_method_2_code 77 = .ok (.iinc 7 (-1), 3) := by decide +kernel
theorem d_K_insert_80 : decode prog_2_method_2_code 80 = .ok (.goto (-42), 3) := by decide +kernel
theorem d_K_insert_83 : decode prog_2_method_2_code 83 = .ok (.aload_n 0, 1) := by decide +kernel
theorem d_K_insert_84 : decode prog_2_method_2_code 84 = .ok (.getfield 9, 3) := by decide +kernel
theorem d_K_insert_87 : decode prog_2_method_2_code 87 = .ok (.iload 6, 2) := by decide +kernel
theorem d_K_insert_89 : decode prog_2_method_2_code 89 = .ok (.lload_n 1, 1) := by decide +kernel
theorem d_K_insert_90 : decode prog_2_method_2_code 90 = .ok (.lastore, 1) := by decide +kernel
theorem d_K_insert_91 : decode prog_2_method_2_code 91 = .ok (.aload_n 0, 1) := by decide +kernel
theorem d_K_insert_92 : decode prog_2_method_2_code 92 = .ok (.getfield 15, 3) := by decide +kernel
theorem d_K_insert_95 : decode prog_2_method_2_code 95 = .ok (.iload 6, 2) := by decide +kernel
theorem d_K_insert_97 : decode prog_2_method_2_code 97 = .ok (.lload_n 3, 1) := by decide +kernel
theorem d_K_insert_98 : decode prog_2_method_2_code 98 = .ok (.lastore, 1) := by decide +kernel
theorem d_K_insert_99 : decode prog_2_method_2_code 99 = .ok (.aload_n 0, 1) := by decide +kernel
theorem d_K_insert_100 : decode prog_2_method_2_code 100 = .ok (.dup, 1) := by decide +kernel
theorem d_K_insert_101 : decode prog_2_method_2_code 101 = .ok (.getfield 18, 3) := by decide +kernel
theorem d_K_insert_104 : decode prog_2_method_2_code 104 = .ok (.iconst 1, 1) := by decide +kernel
theorem d_K_insert_105 : decode prog_2_method_2_code 105 = .ok (.iadd, 1) := by decide +kernel
theorem d_K_insert_106 : decode prog_2_method_2_code 106 = .ok (.putfield 18, 3) := by decide +kernel
theorem d_K_insert_109 : decode prog_2_method_2_code 109 = .ok (.return_, 1) := by decide +kernel
theorem d_K_pieceOf_0 : decode prog_2_method_3_code 0 = .ok (.iconst 0, 1) := by decide +kernel
theorem d_K_pieceOf_1 : decode prog_2_method_3_code 1 = .ok (.istore 5, 2) := by decide +kernel
theorem d_K_pieceOf_3 : decode prog_2_method_3_code 3 = .ok (.iload 5, 2) := by decide +kernel
theorem d_K_pieceOf_5 : decode prog_2_method_3_code 5 = .ok (.aload_n 0, 1) := by decide +kernel
theorem d_K_pieceOf_6 : decode prog_2_method_3_code 6 = .ok (.getfield 18, 3) := by decide +kernel
theorem d_K_pieceOf_9 : decode prog_2_method_3_code 9 = .ok (.if_icmp .ge 56, 3) := by decide +kernel
theorem d_K_pieceOf_12 : decode prog_2_method_3_code 12 = .ok (.lload_n 1, 1) := by decide +kernel
theorem d_K_pieceOf_13 : decode prog_2_method_3_code 13 = .ok (.aload_n 0, 1) := by decide +kernel
theorem d_K_pieceOf_14 : decode prog_2_method_3_code 14 = .ok (.getfield 15, 3) := by decide +kernel
theorem d_K_pieceOf_17 : decode prog_2_method_3_code 17 = .ok (.iload 5, 2) := by decide +kernel
theorem d_K_pieceOf_19 : decode prog_2_method_3_code 19 = .ok (.laload, 1) := by decide +kernel
theorem d_K_pieceOf_20 : decode prog_2_method_3_code 20 = .ok (.lmul, 1) := by decide +kernel
theorem d_K_pieceOf_21 : decode prog_2_method_3_code 21 = .ok (.aload_n 0, 1) := by decide +kernel
theorem d_K_pieceOf_22 : decode prog_2_method_3_code 22 = .ok (.getfield 9, 3) := by decide +kernel
theorem d_K_pieceOf_25 : decode prog_2_method_3_code 25 = .ok (.iload 5, 2) := by decide +kernel
theorem d_K_pieceOf_27 : decode prog_2_method_3_code 27 = .ok (.laload, 1) := by decide +kernel
theorem d_K_pieceOf_28 : decode prog_2_method_3_code 28 = .ok (.lload_n 3, 1) := by decide +kernel
theorem d_K_pieceOf_29 : decode prog_2_method_3_code 29 = .ok (.lmul, 1) := by decide +kernel
theorem d_K_pieceOf_30 : decode prog_2_method_3_code 30 = .ok (.invokestatic 26, 3) := by decide +kernel
theorem d_K_pieceOf_33 : decode prog_2_method_3_code 33 = .ok (.istore 6, 2) := by decide +kernel
theorem d_K_pieceOf_35 : decode prog_2_method_3_code 35 = .ok (.iload 6, 2) := by decide +kernel
theorem d_K_pieceOf_37 : decode prog_2_method_3_code 37 = .ok (.ifCond .gt 22, 3) := by decide +kernel
theorem d_K_pieceOf_40 : decode prog_2_method_3_code 40 = .ok (.iload 6, 2) := by decide +kernel
theorem d_K_pieceOf_42 : decode prog_2_method_3_code 42 = .ok (.ifCond .ne 12, 3) := by decide +kernel
theorem d_K_pieceOf_45 : decode prog_2_method_3_code 45 = .ok (.iconst 2, 1) := by decide +kernel
theorem d_K_pieceOf_46 : decode prog_2_method_3_code 46 = .ok (.iload 5, 2) := by decide +kernel
theorem d_K_pieceOf_48 : decode prog_2_method_3_code 48 = .ok (.imul, 1) := by decide +kernel
theorem d_K_pieceOf_49 : decode prog_2_method_3_code 49 = .ok (.iconst 1, 1) := by decide +kernel
theorem d_K_pieceOf_50 : decode prog_2_method_3_code 50 = .ok (.iadd, 1) := by decide +kernel
theorem d_K_pieceOf_51 : decode prog_2_method_3_code 51 = .ok (.goto 7, 3) := by decide +kernel
theorem d_K_pieceOf_54 : decode prog_2_method_3_code 54 = .ok (.iconst 2, 1) := by decide +kernel
theorem d_K_pieceOf_55 : decode prog_2_method_3_code 55 = .ok (.iload 5, 2) := by decide +kernel
theorem d_K_pieceOf_57 : decode prog_2_method_3_code 57 = .ok (.imul, 1) := by decide +kernel
theorem d_K_pieceOf_58 : decode prog_2_method_3_code 58 = .ok (.ireturn, 1) := by decide +kernel
theorem d_K_pieceOf_59 : decode prog_2_method_3_code 59 = .ok (.iinc 5 1, 3) := by decide +kernel
theorem d_K_pieceOf_62 : decode prog_2_method_3_code 62 = .ok (.goto (-59), 3) := by decide +kernel
theorem d_K_pieceOf_65 : decode prog_2_method_3_code 65 = .ok (.iconst 2, 1) := by decide +kernel
theorem d_K_pieceOf_66 : decode prog_2_method_3_code 66 = .ok (.aload_n 0, 1) := by decide +kernel
theorem d_K_pieceOf_67 : decode prog_2_method_3_code 67 = .ok (.getfield 18, 3) := by decide +kernel
theorem d_K_pieceOf_70 : decode prog_2_method_3_code 70 = .ok (.imul, 1) := by decide +kernel
theorem d_K_pieceOf_71 : decode prog_2_method_3_code 71 = .ok (.ireturn, 1) := by decide +kernel
theorem d_K_samplePart_0 : decode prog_2_method_4_code 0 = .ok (.aload_n 0, 1) := by decide +kernel
theorem d_K_samplePart_1 : decode prog_2_method_4_code 1 = .ok (.getfield 18, 3) := by decide +kernel
theorem d_K_samplePart_4 : decode prog_2_method_4_code 4 = .ok (.ifCond .gt 10, 3) := by decide +kernel
theorem d_K_samplePart_7 : decode prog_2_method_4_code 7 = .ok (.lconst 0, 1) := by decide +kernel
theorem d_K_samplePart_8 : decode prog_2_method_4_code 8 = .ok (.lconst 1, 1) := by decide +kernel
theorem d_K_samplePart_9 : decode prog_2_method_4_code 9 = .ok (.iload_n 2, 1) := by decide +kernel
theorem d_K_samplePart_10 : decode prog_2_method_4_code 10 = .ok (.invokestatic 31, 3) := by decide +kernel
theorem d_K_samplePart_13 : decode prog_2_method_4_code 13 = .ok (.lreturn, 1) := by decide +kernel
theorem d_K_samplePart_14 : decode prog_2_method_4_code 14 = .ok (.iload_n 1, 1) := by decide +kernel
theorem d_K_samplePart_15 : decode prog_2_method_4_code 15 = .ok (.ifCond .gt 27, 3) := by decide +kernel
theorem d_K_samplePart_18 : decode prog_2_method_4_code 18 = .ok (.aload_n 0, 1) := by decide +kernel
theorem d_K_samplePart_19 : decode prog_2_method_4_code 19 = .ok (.getfield 9, 3) := by decide +kernel
theorem d_K_samplePart_22 : decode prog_2_method_4_code 22 = .ok (.iconst 0, 1) := by decide +kernel
theorem d_K_samplePart_23 : decode prog_2_method_4_code 23 = .ok (.laload, 1) := by decide +kernel
theorem d_K_samplePart_24 : decode prog_2_method_4_code 24 = .ok (.aload_n 0, 1) := by decide +kernel
theorem d_K_samplePart_25 : decode prog_2_method_4_code 25 = .ok (.getfield 15, 3) := by decide +kernel
theorem d_K_samplePart_28 : decode prog_2_method_4_code 28 = .ok (.iconst 0, 1) := by decide +kernel
theorem d_K_samplePart_29 : decode prog_2_method_4_code 29 = .ok (.laload, 1) := by decide +kernel
theorem d_K_samplePart_30 : decode prog_2_method_4_code 30 = .ok (.lsub, 1) := by decide +kernel
theorem d_K_samplePart_31 : decode prog_2_method_4_code 31 = .ok (.aload_n 0, 1) := by decide +kernel
theorem d_K_samplePart_32 : decode prog_2_method_4_code 32 = .ok (.getfield 15, 3) := by decide +kernel
theorem d_K_samplePart_35 : decode prog_2_method_4_code 35 = .ok (.iconst 0, 1) := by decide +kernel
theorem d_K_samplePart_36 : decode prog_2_method_4_code 36 = .ok (.laload, 1) := by decide +kernel
theorem d_K_samplePart_37 : decode prog_2_method_4_code 37 = .ok (.iload_n 2, 1) := by decide +kernel
theorem d_K_samplePart_38 : decode prog_2_method_4_code 38 = .ok (.invokestatic 31, 3) := by decide +kernel
theorem d_K_samplePart_41 : decode prog_2_method_4_code 41 = .ok (.lreturn, 1) := by decide +kernel
theorem d_K_samplePart_42 : decode prog_2_method_4_code 42 = .ok (.iload_n 1, 1) := by decide +kernel
theorem d_K_samplePart_43 : decode prog_2_method_4_code 43 = .ok (.iconst 2, 1) := by decide +kernel
theorem d_K_samplePart_44 : decode prog_2_method_4_code 44 = .ok (.idiv, 1) := by decide +kernel
theorem d_K_samplePart_45 : decode prog_2_method_4_code 45 = .ok (.istore_n 3, 1) := by decide +kernel
theorem d_K_samplePart_46 : decode prog_2_method_4_code 46 = .ok (.iload_n 3, 1) := by decide +kernel
theorem d_K_samplePart_47 : decode prog_2_method_4_code 47 = .ok (.aload_n 0, 1) := by decide +kernel
theorem d_K_samplePart_48 : decode prog_2_method_4_code 48 = .ok (.getfield 18, 3) := by decide +kernel
theorem d_K_samplePart_51 : decode prog_2_method_4_code 51 = .ok (.if_icmp .lt 42, 3) := by decide +kernel
theorem d_K_samplePart_54 : decode prog_2_method_4_code 54 = .ok (.aload_n 0, 1) := by decide +kernel
theorem d_K_samplePart_55 : decode prog_2_method_4_code 55 = .ok (.getfield 9, 3) := by decide +kernel
theorem d_K_samplePart_58 : decode prog_2_method_4_code 58 = .ok (.aload_n 0, 1) := by decide +kernel
theorem d_K_samplePart_59 : decode prog_2_method_4_code 59 = .ok (.getfield 18, 3) := by decide +kernel
theorem d_K_samplePart_62 : decode prog_2_method_4_code 62 = .ok (.iconst 1, 1) := by decide +kernel
theorem d_K_samplePart_63 : decode prog_2_method_4_code 63 = .ok (.isub, 1) := by decide +kernel
theorem d_K_samplePart_64 : decode prog_2_method_4_code 64 = .ok (.laload, 1) := by decide +kernel
theorem d_K_samplePart_65 : decode prog_2_method_4_code 65 = .ok (.aload_n 0, 1) := by decide +kernel
theorem d_K_samplePart_66 : decode prog_2_method_4_code 66 = .ok (.getfield 15, 3) := by decide +kernel
theorem d_K_samplePart_69 : decode prog_2_method_4_code 69 = .ok (.aload_n 0, 1) := by decide +kernel
theorem d_K_samplePart_70 : decode prog_2_method_4_code 70 = .ok (.getfield 18, 3) := by decide +kernel
theorem d_K_samplePart_73 : decode prog_2_method_4_code 73 = .ok (.iconst 1, 1) := by decide +kernel
theorem d_K_samplePart_74 : decode prog_2_method_4_code 74 = .ok (.isub, 1) := by decide +kernel
theorem d_K_samplePart_75 : decode prog_2_method_4_code 75 = .ok (.laload, 1) := by decide +kernel
theorem d_K_samplePart_76 : decode prog_2_method_4_code 76 = .ok (.ladd, 1) := by decide +kernel
theorem d_K_samplePart_77 : decode prog_2_method_4_code 77 = .ok (.aload_n 0, 1) := by decide +kernel
theorem d_K_samplePart_78 : decode prog_2_method_4_code 78 = .ok (.getfield 15, 3) := by decide +kernel
theorem d_K_samplePart_81 : decode prog_2_method_4_code 81 = .ok (.aload_n 0, 1) := by decide +kernel
theorem d_K_samplePart_82 : decode prog_2_method_4_code 82 = .ok (.getfield 18, 3) := by decide +kernel
theorem d_K_samplePart_85 : decode prog_2_method_4_code 85 = .ok (.iconst 1, 1) := by decide +kernel
theorem d_K_samplePart_86 : decode prog_2_method_4_code 86 = .ok (.isub, 1) := by decide +kernel
theorem d_K_samplePart_87 : decode prog_2_method_4_code 87 = .ok (.laload, 1) := by decide +kernel
theorem d_K_samplePart_88 : decode prog_2_method_4_code 88 = .ok (.iload_n 2, 1) := by decide +kernel
theorem d_K_samplePart_89 : decode prog_2_method_4_code 89 = .ok (.invokestatic 31, 3) := by decide +kernel
theorem d_K_samplePart_92 : decode prog_2_method_4_code 92 = .ok (.lreturn, 1) := by decide +kernel
theorem d_K_samplePart_93 : decode prog_2_method_4_code 93 = .ok (.iload_n 1, 1) := by decide +kernel
theorem d_K_samplePart_94 : decode prog_2_method_4_code 94 = .ok (.iconst 2, 1) := by decide +kernel
theorem d_K_samplePart_95 : decode prog_2_method_4_code 95 = .ok (.irem, 1) := by decide +kernel
theorem d_K_samplePart_96 : decode prog_2_method_4_code 96 = .ok (.iconst 1, 1) := by decide +kernel
theorem d_K_samplePart_97 : decode prog_2_method_4_code 97 = .ok (.if_icmp .ne 20, 3) := by decide +kernel
theorem d_K_samplePart_100 : decode prog_2_method_4_code 100 = .ok (.aload_n 0, 1) := by decide +kernel
theorem d_K_samplePart_101 : decode prog_2_method_4_code 101 = .ok (.getfield 9, 3) := by decide +kernel
theorem d_K_samplePart_104 : decode prog_2_method_4_code 104 = .ok (.iload_n 3, 1) := by decide +kernel
theorem d_K_samplePart_105 : decode prog_2_method_4_code 105 = .ok (.laload, 1) := by decide +kernel
theorem d_K_samplePart_106 : decode prog_2_method_4_code 106 = .ok (.aload_n 0, 1) := by decide +kernel
theorem d_K_samplePart_107 : decode prog_2_method_4_code 107 = .ok (.getfield 15, 3) := by decide +kernel
theorem d_K_samplePart_110 : decode prog_2_method_4_code 110 = .ok (.iload_n 3, 1) := by decide +kernel
theorem d_K_samplePart_111 : decode prog_2_method_4_code 111 = .ok (.laload, 1) := by decide +kernel
theorem d_K_samplePart_112 : decode prog_2_method_4_code 112 = .ok (.iload_n 2, 1) := by decide +kernel
theorem d_K_samplePart_113 : decode prog_2_method_4_code 113 = .ok (.invokestatic 31, 3) := by decide +kernel
theorem d_K_samplePart_116 : decode prog_2_method_4_code 116 = .ok (.lreturn, 1) := by decide +kernel
theorem d_K_samplePart_117 : decode prog_2_method_4_code 117 = .ok (.aload_n 0, 1) := by decide +kernel
theorem d_K_samplePart_118 : decode prog_2_method_4_code 118 = .ok (.getfield 9, 3) := by decide +kernel
theorem d_K_samplePart_121 : decode prog_2_method_4_code 121 = .ok (.iload_n 3, 1) := by decide +kernel
theorem d_K_samplePart_122 : decode prog_2_method_4_code 122 = .ok (.iconst 1, 1) := by decide +kernel
theorem d_K_samplePart_123 : decode prog_2_method_4_code 123 = .ok (.isub, 1) := by decide +kernel
theorem d_K_samplePart_124 : decode prog_2_method_4_code 124 = .ok (.laload, 1) := by decide +kernel
theorem d_K_samplePart_125 : decode prog_2_method_4_code 125 = .ok (.aload_n 0, 1) := by decide +kernel
theorem d_K_samplePart_126 : decode prog_2_method_4_code 126 = .ok (.getfield 15, 3) := by decide +kernel
theorem d_K_samplePart_129 : decode prog_2_method_4_code 129 = .ok (.iload_n 3, 1) := by decide +kernel
theorem d_K_samplePart_130 : decode prog_2_method_4_code 130 = .ok (.laload, 1) := by decide +kernel
theorem d_K_samplePart_131 : decode prog_2_method_4_code 131 = .ok (.lmul, 1) := by decide +kernel
theorem d_K_samplePart_132 : decode prog_2_method_4_code 132 = .ok (.aload_n 0, 1) := by decide +kernel
theorem d_K_samplePart_133 : decode prog_2_method_4_code 133 = .ok (.getfield 9, 3) := by decide +kernel
theorem d_K_samplePart_136 : decode prog_2_method_4_code 136 = .ok (.iload_n 3, 1) := by decide +kernel
theorem d_K_samplePart_137 : decode prog_2_method_4_code 137 = .ok (.laload, 1) := by decide +kernel
theorem d_K_samplePart_138 : decode prog_2_method_4_code 138 = .ok (.aload_n 0, 1) := by decide +kernel
theorem d_K_samplePart_139 : decode prog_2_method_4_code 139 = .ok (.getfield 15, 3) := by decide +kernel
theorem d_K_samplePart_142 : decode prog_2_method_4_code 142 = .ok (.iload_n 3, 1) := by decide +kernel
theorem d_K_samplePart_143 : decode prog_2_method_4_code 143 = .ok (.iconst 1, 1) := by decide +kernel
theorem d_K_samplePart_144 : decode prog_2_method_4_code 144 = .ok (.isub, 1) := by decide +kernel
theorem d_K_samplePart_145 : decode prog_2_method_4_code 145 = .ok (.laload, 1) := by decide +kernel
theorem d_K_samplePart_146 : decode prog_2_method_4_code 146 = .ok (.lmul, 1) := by decide +kernel
theorem d_K_samplePart_147 : decode prog_2_method_4_code 147 = .ok (.ladd, 1) := by decide +kernel
theorem d_K_samplePart_148 : decode prog_2_method_4_code 148 = .ok (.lstore 4, 2) := by decide +kernel
theorem d_K_samplePart_150 : decode prog_2_method_4_code 150 = .ok (.lload 4, 2) := by decide +kernel
theorem d_K_samplePart_152 : decode prog_2_method_4_code 152 = .ok (.ldc2_w 35, 3) := by decide +kernel
theorem d_K_samplePart_155 : decode prog_2_method_4_code 155 = .ok (.aload_n 0, 1) := by decide +kernel
theorem d_K_samplePart_156 : decode prog_2_method_4_code 156 = .ok (.getfield 15, 3) := by decide +kernel
theorem d_K_samplePart_159 : decode prog_2_method_4_code 159 = .ok (.iload_n 3, 1) := by decide +kernel
theorem d_K_samplePart_160 : decode prog_2_method_4_code 160 = .ok (.iconst 1, 1) := by decide +kernel
theorem d_K_samplePart_161 : decode prog_2_method_4_code 161 = .ok (.isub, 1) := by decide +kernel
theorem d_K_samplePart_162 : decode prog_2_method_4_code 162 = .ok (.laload, 1) := by decide +kernel
theorem d_K_samplePart_163 : decode prog_2_method_4_code 163 = .ok (.lmul, 1) := by decide +kernel
theorem d_K_samplePart_164 : decode prog_2_method_4_code 164 = .ok (.aload_n 0, 1) := by decide +kernel
theorem d_K_samplePart_165 : decode prog_2_method_4_code 165 = .ok (.getfield 15, 3) := by decide +kernel
theorem d_K_samplePart_168 : decode prog_2_method_4_code 168 = .ok (.iload_n 3, 1) := by decide +kernel
theorem d_K_samplePart_169 : decode prog_2_method_4_code 169 = .ok (.laload, 1) := by decide +kernel
theorem d_K_samplePart_170 : decode prog_2_method_4_code 170 = .ok (.lmul, 1) := by decide +kernel
theorem d_K_samplePart_171 : decode prog_2_method_4_code 171 = .ok (.iload_n 2, 1) := by decide +kernel
theorem d_K_samplePart_172 : decode prog_2_method_4_code 172 = .ok (.invokestatic 31, 3) := by decide +kernel
theorem d_K_samplePart_175 : decode prog_2_method_4_code 175 = .ok (.lreturn, 1) := by decide +kernel
theorem d_K_reduced_0 : decode prog_2_method_5_code 0 = .ok (.lload_n 0, 1) := by decide +kernel
theorem d_K_reduced_1 : decode prog_2_method_5_code 1 = .ok (.invokestatic 37, 3) := by decide +kernel
theorem d_K_reduced_4 : decode prog_2_method_5_code 4 = .ok (.lload_n 2, 1) := by decide +kernel
theorem d_K_reduced_5 : decode prog_2_method_5_code 5 = .ok (.invokestatic 43, 3) := by decide +kernel
theorem d_K_reduced_8 : decode prog_2_method_5_code 8 = .ok (.lstore 5, 2) := by decide +kernel
theorem d_K_reduced_10 : decode prog_2_method_5_code 10 = .ok (.iload 4, 2) := by decide +kernel
theorem d_K_reduced_12 : decode prog_2_method_5_code 12 = .ok (.ifCond .ne 7, 3) := by decide +kernel
theorem d_K_reduced_15 : decode prog_2_method_5_code 15 = .ok (.lload_n 0, 1) := by decide +kernel
theorem d_K_reduced_16 : decode prog_2_method_5_code 16 = .ok (.goto 4, 3) := by decide +kernel
theorem d_K_reduced_19 : decode prog_2_method_5_code 19 = .ok (.lload_n 2, 1) := by decide +kernel
theorem d_K_reduced_20 : decode prog_2_method_5_code 20 = .ok (.lload 5, 2) := by decide +kernel
theorem d_K_reduced_22 : decode prog_2_method_5_code 22 = .ok (.ldiv, 1) := by decide +kernel
theorem d_K_reduced_23 : decode prog_2_method_5_code 23 = .ok (.lreturn, 1) := by decide +kernel
theorem d_K_commonDivisor_0 : decode prog_2_method_6_code 0 = .ok (.lload_n 0, 1) := by decide +kernel
theorem d_K_commonDivisor_1 : decode prog_2_method_6_code 1 = .ok (.lstore 4, 2) := by decide +kernel
theorem d_K_commonDivisor_3 : decode prog_2_method_6_code 3 = .ok (.lload_n 2, 1) := by decide +kernel
theorem d_K_commonDivisor_4 : decode prog_2_method_6_code 4 = .ok (.lstore 6, 2) := by decide +kernel
theorem d_K_commonDivisor_6 : decode prog_2_method_6_code 6 = .ok (.iconst 0, 1) := by decide +kernel
theorem d_K_commonDivisor_7 : decode prog_2_method_6_code 7 = .ok (.istore 8, 2) := by decide +kernel
theorem d_K_commonDivisor_9 : decode prog_2_method_6_code 9 = .ok (.iload 8, 2) := by decide +kernel
theorem d_K_commonDivisor_11 : decode prog_2_method_6_code 11 = .ok (.bipush 100, 2) := by decide +kernel
theorem d_K_commonDivisor_13 : decode prog_2_method_6_code 13 = .ok (.if_icmp .ge 31, 3) := by decide +kernel
theorem d_K_commonDivisor_16 : decode prog_2_method_6_code 16 = .ok (.lload 6, 2) := by decide +kernel
theorem d_K_commonDivisor_18 : decode prog_2_method_6_code 18 = .ok (.lconst 0, 1) := by decide +kernel
theorem d_K_commonDivisor_19 : decode prog_2_method_6_code 19 = .ok (.lcmp, 1) := by decide +kernel
theorem d_K_commonDivisor_20 : decode prog_2_method_6_code 20 = .ok (.ifCond .eq 24, 3) := by decide +kernel
theorem d_K_commonDivisor_23 : decode prog_2_method_6_code 23 = .ok (.lload 4, 2) := by decide +kernel
theorem d_K_commonDivisor_25 : decode prog_2_method_6_code 25 = .ok (.lload 6, 2) := by decide +kernel
theorem d_K_commonDivisor_27 : decode prog_2_method_6_code 27 = .ok (.lrem, 1) := by decide +kernel
theorem d_K_commonDivisor_28 : decode prog_2_method_6_code 28 = .ok (.lstore 9, 2) := by decide +kernel
theorem d_K_commonDivisor_30 : decode prog_2_method_6_code 30 = .ok (.lload 6, 2) := by decide +kernel
theorem d_K_commonDivisor_32 : decode prog_2_method_6_code 32 = .ok (.lstore 4, 2) := by decide +kernel
theorem d_K_commonDivisor_34 : decode prog_2_method_6_code 34 = .ok (.lload 9, 2) := by decide +kernel
theorem d_K_commonDivisor_36 : decode prog_2_method_6_code 36 = .ok (.lstore 6, 2) := by decide +kernel
theorem d_K_commonDivisor_38 : decode prog_2_method_6_code 38 = .ok (.iinc 8 1, 3) := by decide +kernel
theorem d_K_commonDivisor_41 : decode prog_2_method_6_code 41 = .ok (.goto (-32), 3) := by decide +kernel
theorem d_K_commonDivisor_44 : decode prog_2_method_6_code 44 = .ok (.lload 4, 2) := by decide +kernel
theorem d_K_commonDivisor_46 : decode prog_2_method_6_code 46 = .ok (.lconst 1, 1) := by decide +kernel
theorem d_K_commonDivisor_47 : decode prog_2_method_6_code 47 = .ok (.invokestatic 47, 3) := by decide +kernel
theorem d_K_commonDivisor_50 : decode prog_2_method_6_code 50 = .ok (.lreturn, 1) := by decide +kernel
theorem d_JI_compare_0 : decode prog_9_method_40_code 0 = .ok (.iload_n 0, 1) := by decide +kernel
theorem d_JI_compare_1 : decode prog_9_method_40_code 1 = .ok (.iload_n 1, 1) := by decide +kernel
theorem d_JI_compare_2 : decode prog_9_method_40_code 2 = .ok (.if_icmp .ge 7, 3) := by decide +kernel
theorem d_JI_compare_5 : decode prog_9_method_40_code 5 = .ok (.iconst (-1), 1) := by decide +kernel
theorem d_JI_compare_6 : decode prog_9_method_40_code 6 = .ok (.goto 13, 3) := by decide +kernel
theorem d_JI_compare_9 : decode prog_9_method_40_code 9 = .ok (.iload_n 0, 1) := by decide +kernel
theorem d_JI_compare_10 : decode prog_9_method_40_code 10 = .ok (.iload_n 1, 1) := by decide +kernel
theorem d_JI_compare_11 : decode prog_9_method_40_code 11 = .ok (.if_icmp .ne 7, 3) := by decide +kernel
theorem d_JI_compare_14 : decode prog_9_method_40_code 14 = .ok (.iconst 0, 1) := by decide +kernel
theorem d_JI_compare_15 : decode prog_9_method_40_code 15 = .ok (.goto 4, 3) := by decide +kernel
theorem d_JI_compare_18 : decode prog_9_method_40_code 18 = .ok (.iconst 1, 1) := by decide +kernel
theorem d_JI_compare_19 : decode prog_9_method_40_code 19 = .ok (.ireturn, 1) := by decide +kernel
theorem d_JL_compare_0 : decode prog_10_method_42_code 0 = .ok (.lload_n 0, 1) := by decide +kernel
theorem d_JL_compare_1 : decode prog_10_method_42_code 1 = .ok (.lload_n 2, 1) := by decide +kernel
theorem d_JL_compare_2 : decode prog_10_method_42_code 2 = .ok (.lcmp, 1) := by decide +kernel
theorem d_JL_compare_3 : decode prog_10_method_42_code 3 = .ok (.ifCond .ge 7, 3) := by decide +kernel
theorem d_JL_compare_6 : decode prog_10_method_42_code 6 = .ok (.iconst (-1), 1) := by decide +kernel
theorem d_JL_compare_7 : decode prog_10_method_42_code 7 = .ok (.goto 14, 3) := by decide +kernel
theorem d_JL_compare_10 : decode prog_10_method_42_code 10 = .ok (.lload_n 0, 1) := by decide +kernel
theorem d_JL_compare_11 : decode prog_10_method_42_code 11 = .ok (.lload_n 2, 1) := by decide +kernel
theorem d_JL_compare_12 : decode prog_10_method_42_code 12 = .ok (.lcmp, 1) := by decide +kernel
theorem d_JL_compare_13 : decode prog_10_method_42_code 13 = .ok (.ifCond .ne 7, 3) := by decide +kernel
theorem d_JL_compare_16 : decode prog_10_method_42_code 16 = .ok (.iconst 0, 1) := by decide +kernel
theorem d_JL_compare_17 : decode prog_10_method_42_code 17 = .ok (.goto 4, 3) := by decide +kernel
theorem d_JL_compare_20 : decode prog_10_method_42_code 20 = .ok (.iconst 1, 1) := by decide +kernel
theorem d_JL_compare_21 : decode prog_10_method_42_code 21 = .ok (.ireturn, 1) := by decide +kernel
theorem d_JM_absI_0 : decode prog_11_method_59_code 0 = .ok (.iload_n 0, 1) := by decide +kernel
theorem d_JM_absI_1 : decode prog_11_method_59_code 1 = .ok (.ifCond .ge 8, 3) := by decide +kernel
theorem d_JM_absI_4 : decode prog_11_method_59_code 4 = .ok (.iload_n 0, 1) := by decide +kernel
theorem d_JM_absI_5 : decode prog_11_method_59_code 5 = .ok (.ineg, 1) := by decide +kernel
theorem d_JM_absI_6 : decode prog_11_method_59_code 6 = .ok (.goto 4, 3) := by decide +kernel
theorem d_JM_absI_9 : decode prog_11_method_59_code 9 = .ok (.iload_n 0, 1) := by decide +kernel
theorem d_JM_absI_10 : decode prog_11_method_59_code 10 = .ok (.ireturn, 1) := by decide +kernel
theorem d_JM_absJ_0 : decode prog_11_method_61_code 0 = .ok (.lload_n 0, 1) := by decide +kernel
theorem d_JM_absJ_1 : decode prog_11_method_61_code 1 = .ok (.lconst 0, 1) := by decide +kernel
theorem d_JM_absJ_2 : decode prog_11_method_61_code 2 = .ok (.lcmp, 1) := by decide +kernel
theorem d_JM_absJ_3 : decode prog_11_method_61_code 3 = .ok (.ifCond .ge 8, 3) := by decide +kernel
theorem d_JM_absJ_6 : decode prog_11_method_61_code 6 = .ok (.lload_n 0, 1) := by decide +kernel
theorem d_JM_absJ_7 : decode prog_11_method_61_code 7 = .ok (.lneg, 1) := by decide +kernel
theorem d_JM_absJ_8 : decode prog_11_method_61_code 8 = .ok (.goto 4, 3) := by decide +kernel
theorem d_JM_absJ_11 : decode prog_11_method_61_code 11 = .ok (.lload_n 0, 1) := by decide +kernel
theorem d_JM_absJ_12 : decode prog_11_method_61_code 12 = .ok (.lreturn, 1) := by decide +kernel
theorem d_JM_maxJ_0 : decode prog_11_method_66_code 0 = .ok (.lload_n 0, 1) := by decide +kernel
theorem d_JM_maxJ_1 : decode prog_11_method_66_code 1 = .ok (.lload_n 2, 1) := by decide +kernel
theorem d_JM_maxJ_2 : decode prog_11_method_66_code 2 = .ok (.lcmp, 1) := by decide +kernel
theorem d_JM_maxJ_3 : decode prog_11_method_66_code 3 = .ok (.ifCond .lt 7, 3) := by decide +kernel
theorem d_JM_maxJ_6 : decode prog_11_method_66_code 6 = .ok (.lload_n 0, 1) := by decide +kernel
theorem d_JM_maxJ_7 : decode prog_11_method_66_code 7 = .ok (.goto 4, 3) := by decide +kernel
theorem d_JM_maxJ_10 : decode prog_11_method_66_code 10 = .ok (.lload_n 2, 1) := by decide +kernel
theorem d_JM_maxJ_11 : decode prog_11_method_66_code 11 = .ok (.lreturn, 1) := by decide +kernel
end
section
/-! ints and longs by their whole numbers -/
def jI (z : Int) : Int32 := Int32.ofInt z
def jL (z : Int) : Int64 := Int64.ofInt z
theorem jL_add (a b : Int) : jL a + jL b = jL (a + b) := (Int64.ofInt_add a b).symm
theorem jL_sub (a b : Int) : jL a - jL b = jL (a - b) := (Int64.ofInt_sub a b).symm
theorem jL_mul (a b : Int) : jL a * jL b = jL (a * b) := (Int64.ofInt_mul a b).symm
theorem jL_neg (a : Int) : - jL a = jL (- a) := (Int64.ofInt_neg a).symm
theorem jI_add (a b : Int) : jI a + jI b = jI (a + b) := (Int32.ofInt_add a b).symm
theorem jI_sub (a b : Int) : jI a - jI b = jI (a - b) := (Int32.ofInt_sub a b).symm
theorem jI_mul (a b : Int) : jI a * jI b = jI (a * b) := (Int32.ofInt_mul a b).symm
theorem jI_neg (a : Int) : - jI a = jI (- a) := (Int32.ofInt_neg a).symm
theorem jL_of (x : Int64) : x = jL x.toInt := (Int64.ofInt_toInt x).symm
theorem jI_of (x : Int32) : x = jI x.toInt := (Int32.ofInt_toInt x).symm
theorem jI_nI (n : Nat) : jI (n : Int) = nI n := Int32.ofInt_eq_ofNat
theorem jI_0 : (0 : Int32) = jI 0 := rfl
theorem jL_0 : (0 : Int64) = jL 0 := rfl
theorem jI_1 : (1 : Int32) = jI 1 := rfl
theorem jL_1 : (1 : Int64) = jL 1 := rfl
theorem jL_2 : (2 : Int64) = jL 2 := rfl
/-- a whole number that a long, an int holds -/
abbrev inL (z : Int) : Prop := -9223372036854775808 ≤ z ∧ z ≤ 9223372036854775807
abbrev inI (z : Int) : Prop := -2147483648 ≤ z ∧ z ≤ 2147483647
theorem jL_t {z : Int} (h : inL z) : (jL z).toInt = z := Int64.toInt_ofInt_of_le (by omega) (by omega)
theorem jI_t {z : Int} (h : inI z) : (jI z).toInt = z := Int32.toInt_ofInt_of_le (by omega) (by omega)
theorem jL_lt {a b : Int} (ha : inL a) (hb : inL b) : jL a < jL b ↔ a < b := by
  rw [Int64.lt_iff_toInt_lt, jL_t ha, jL_t hb]
theorem jL_le {a b : Int} (ha : inL a) (hb : inL b) : jL a ≤ jL b ↔ a ≤ b := by
  rw [Int64.le_iff_toInt_le, jL_t ha, jL_t hb]
theorem jL_eq {a b : Int} (ha : inL a) (hb : inL b) : jL a = jL b ↔ a = b := by
  rw [← Int64.toInt_inj, jL_t ha, jL_t hb]
theorem jI_lt {a b : Int} (ha : inI a) (hb : inI b) : jI a < jI b ↔ a < b := by
  rw [Int32.lt_iff_toInt_lt, jI_t ha, jI_t hb]
theorem jI_le {a b : Int} (ha : inI a) (hb : inI b) : jI a ≤ jI b ↔ a ≤ b := by
  rw [Int32.le_iff_toInt_le, jI_t ha, jI_t hb]
theorem jI_eq {a b : Int} (ha : inI a) (hb : inI b) : jI a = jI b ↔ a = b := by
  rw [← Int32.toInt_inj, jI_t ha, jI_t hb]
theorem jI_l {z : Int} (h : inI z) : (jI z).toInt64 = jL z := by
  rw [jL_of (jI z).toInt64, Int32.toInt_toInt64, jI_t h]
theorem jL_div {a b : Int} (ha : inL a) (hb : inL b) : jL a / jL b = jL (a.tdiv b) :=
  (Int64.ofInt_tdiv (show -9223372036854775808 ≤ a from ha.1) (show a ≤ 9223372036854775807 from ha.2) (show -9223372036854775808 ≤ b from hb.1) (show b ≤ 9223372036854775807 from hb.2)).symm
theorem jI_div {a b : Int} (ha : inI a) (hb : inI b) : jI a / jI b = jI (a.tdiv b) :=
  (Int32.ofInt_tdiv (show -2147483648 ≤ a from ha.1) (show a ≤ 2147483647 from ha.2) (show -2147483648 ≤ b from hb.1) (show b ≤ 2147483647 from hb.2)).symm
/-- the rows' word for the rest -/
theorem jL_rem {a b : Int} (ha : inL a) (hb : inL b) : jL a - jL a / jL b * jL b = jL (a.tmod b) := by
  rw [jL_div ha hb, jL_mul, jL_sub]
  congr 1
  have := Int.mul_tdiv_add_tmod a b
  rw [Int.mul_comm] at this
  omega
theorem jI_rem {a b : Int} (ha : inI a) (hb : inI b) : jI a - jI a / jI b * jI b = jI (a.tmod b) := by
  rw [jI_div ha hb, jI_mul, jI_sub]
  congr 1
  have := Int.mul_tdiv_add_tmod a b
  rw [Int.mul_comm] at this
  omega
theorem jL_divN {a b : Nat} (ha : a < 2 ^ 62) (hb : b < 2 ^ 62) : jL a / jL b = jL (a / b : Nat) := by
  rw [jL_div (by omega) (by omega)]; rfl
theorem jL_remN {a b : Nat} (ha : a < 2 ^ 62) (hb : b < 2 ^ 62) : jL a - jL a / jL b * jL b = jL (a % b : Nat) := by
  rw [jL_rem (by omega) (by omega)]; rfl
/-- an index: a whole number in range -/
theorem jI_in {z : Int} {n : Nat} (h0 : 0 ≤ z) (h1 : z < n) (hn : n < 2147483648) : vp_in (jI z) n := vp_in_iff.mpr (by rw [jI_t (by omega)]; exact ⟨h0, h1⟩)
theorem jI_cl {z : Int} (h0 : 0 ≤ z) (h1 : z < 2147483648) : (jI z).toNatClampNeg = z.toNat := by
  show (jI z).toInt.toNat = z.toNat
  rw [jI_t (by omega)]
/-- Euclid's way, with a bound on its steps -/
theorem gcd_half {a b : Nat} (hb : 0 < b) (hr : 0 < a % b) : 2 * (b % (a % b)) < b := by
  have h1 : a % b < b := Nat.mod_lt a hb
  have h2 : b % (a % b) < a % b := Nat.mod_lt b hr
  have h3 := Nat.div_add_mod b (a % b)
  have h4 : 1 ≤ b / (a % b) := Nat.div_pos (Nat.le_of_lt h1) hr
  have h5 : (a % b) * 1 ≤ (a % b) * (b / (a % b)) := Nat.mul_le_mul_left _ h4
  omega
end
section
/-! fractions: pairs (above, below) of whole numbers; lowest terms; rising lists of them -/
abbrev Fr : Type := Int × Int
def fr0 : Fr := (0, 1)
/-- x is below y (both with a number above 0 below the bar) -/
abbrev flt (x y : Fr) : Prop := x.1 * y.2 < y.1 * x.2
/-- lowest terms, the number below the bar above 0 -/
def fred (u d : Int) : Fr := if d < 0 then (-(u / (Int.gcd u d : Int)), -(d / (Int.gcd u d : Int))) else (u / (Int.gcd u d : Int), d / (Int.gcd u d : Int))
theorem fred_spec (u d : Int) (hd : d ≠ 0) : ∃ g : Int, g ≠ 0 ∧ u = g * (fred u d).1 ∧ d = g * (fred u d).2 ∧ 0 < (fred u d).2 ∧ (0 < d → 0 < g) := by
  have g0 : 0 < (Int.gcd u d : Int) := by exact_mod_cast Int.gcd_pos_of_ne_zero_right u hd
  have hu : (Int.gcd u d : Int) * (u / (Int.gcd u d : Int)) = u := Int.mul_ediv_cancel' (Int.gcd_dvd_left u d)
  have hv : (Int.gcd u d : Int) * (d / (Int.gcd u d : Int)) = d := Int.mul_ediv_cancel' (Int.gcd_dvd_right u d)
  unfold fred
  generalize (Int.gcd u d : Int) = g at *
  generalize u / g = U at *
  generalize d / g = D at *
  by_cases h : d < 0
  · rw [if_pos h]
    refine ⟨-g, by omega, ?_, ?_, ?_, fun h2 => absurd h2 (by omega)⟩
    · show u = -g * -U
      rw [Int.neg_mul_neg]; exact hu.symm
    · show d = -g * -D
      rw [Int.neg_mul_neg]; exact hv.symm
    · show 0 < -D
      have : D < 0 := by
        apply Int.not_le.mp
        intro hD
        have := Int.mul_nonneg (Int.le_of_lt g0) hD
        omega
      omega
  · rw [if_neg h]
    refine ⟨g, by omega, hu.symm, hv.symm, ?_, fun _ => g0⟩
    show 0 < D
    apply Int.not_le.mp
    intro hD
    have := Int.mul_nonneg (Int.le_of_lt g0) (show 0 ≤ -D by omega)
    rw [Int.mul_neg] at this
    omega
theorem fred_pos (u d : Int) (hd : d ≠ 0) : 0 < (fred u d).2 := (fred_spec u d hd).choose_spec.2.2.2.1
theorem fred_scale (k u d : Int) (hk : k ≠ 0) (hd : d ≠ 0) : fred (k * u) (k * d) = fred u d := by
  have hg : (Int.gcd (k * u) (k * d) : Int) = (k.natAbs : Int) * (Int.gcd u d : Int) := by
    rw [Int.gcd_mul_left]; exact Int.natCast_mul _ _
  have du := Int.gcd_dvd_left u d
  have dd := Int.gcd_dvd_right u d
  unfold fred
  rw [hg]
  generalize (Int.gcd u d : Int) = g at *
  rcases Int.lt_or_gt_of_ne hk with h | h
  · obtain ⟨j, rfl⟩ : ∃ j : Int, k = -j := ⟨-k, by omega⟩
    have hj : 0 < j := by omega
    have hn : ((-j).natAbs : Int) = j := by omega
    rw [hn, show -j * u = j * -u by rw [Int.neg_mul, Int.mul_neg], show -j * d = j * -d by rw [Int.neg_mul, Int.mul_neg], Int.mul_ediv_mul_of_pos _ _ hj, Int.mul_ediv_mul_of_pos _ _ hj, Int.neg_ediv_of_dvd du, Int.neg_ediv_of_dvd dd]
    rcases Int.lt_or_gt_of_ne hd with h2 | h2
    · rw [if_pos h2, if_neg (by have := Int.mul_pos hj (show 0 < -d by omega); omega)]
    · rw [if_neg (show ¬ d < 0 by omega), if_pos (show j * -d < 0 by have := Int.mul_pos hj h2; rw [Int.mul_neg]; omega)]
      simp
  · have hn : (k.natAbs : Int) = k := by omega
    rw [hn, Int.mul_ediv_mul_of_pos _ _ h, Int.mul_ediv_mul_of_pos _ _ h]
    rcases Int.lt_or_gt_of_ne hd with h2 | h2
    · rw [if_pos h2, if_pos (by have := Int.mul_pos h (show 0 < -d by omega); rw [Int.mul_neg] at this; omega)]
    · rw [if_neg (show ¬ d < 0 by omega), if_neg (show ¬ k * d < 0 by have := Int.mul_pos h h2; omega)]
theorem fred_eq {u d u' d' : Int} (hd : d ≠ 0) (hd' : d' ≠ 0) (h : u * d' = u' * d) : fred u d = fred u' d' := by
  rw [← fred_scale d' u d hd' hd, ← fred_scale d u' d' hd hd', Int.mul_comm d' u, h, Int.mul_comm u' d, Int.mul_comm d' d]
theorem flt_red {u d u' d' : Int} (hd : 0 < d) (hd' : 0 < d') : flt (fred u d) (fred u' d') ↔ u * d' < u' * d := by
  obtain ⟨g, -, h1, h2, -, h4⟩ := fred_spec u d (by omega)
  obtain ⟨g', -, h1', h2', -, h4'⟩ := fred_spec u' d' (by omega)
  have hg := h4 hd
  have hg' := h4' hd'
  unfold flt
  generalize (fred u d).1 = U at *
  generalize (fred u d).2 = D at *
  generalize (fred u' d').1 = U' at *
  generalize (fred u' d').2 = D' at *
  subst h1 h2 h1' h2'
  have e1 : g * U * (g' * D') = (g * g') * (U * D') := by grind
  have e2 : g' * U' * (g * D) = (g * g') * (U' * D) := by grind
  rw [e1, e2]
  have hp : 0 < g * g' := Int.mul_pos hg hg'
  exact ⟨fun h => Int.mul_lt_mul_of_pos_left h hp, fun h => Int.lt_of_mul_lt_mul_left h (Int.le_of_lt hp)⟩
theorem fred_cross {u d u' d' : Int} (hd : 0 < d) (hd' : 0 < d') : fred u d = fred u' d' ↔ u * d' = u' * d := by
  constructor
  · intro h
    obtain ⟨g, -, h1, h2, -, -⟩ := fred_spec u d (by omega)
    obtain ⟨g', -, h1', h2', -, -⟩ := fred_spec u' d' (by omega)
    rw [← h] at h1' h2'
    generalize (fred u d).1 = U at *
    generalize (fred u d).2 = D at *
    subst h1 h2 h1' h2'
    grind
  · exact fred_eq (by omega) (by omega)
theorem fred_red (u d : Int) (hd : d ≠ 0) : fred (fred u d).1 (fred u d).2 = fred u d := by
  obtain ⟨g, -, h1, h2, h3, -⟩ := fred_spec u d hd
  refine fred_eq (by omega) hd ?_
  generalize (fred u d).1 = U at *
  generalize (fred u d).2 = D at *
  subst h1 h2
  grind
/-- what is in lowest terms -/
def fok (x : Fr) : Prop := 0 < x.2 ∧ fred x.1 x.2 = x
theorem fok_red (u d : Int) (hd : d ≠ 0) : fok (fred u d) := ⟨fred_pos u d hd, fred_red u d hd⟩
theorem fok_lt {x y : Fr} (hx : fok x) (hy : fok y) : ¬ flt x y → ¬ flt y x → x = y := by
  intro h1 h2
  rw [← hx.2, ← hy.2]
  refine fred_eq (by have := hx.1; omega) (by have := hy.1; omega) ?_
  unfold flt at h1 h2
  omega
theorem flt_irr (x : Fr) : ¬ flt x x := by unfold flt; omega
theorem flt_tr {x y z : Fr} (hx : 0 < x.2) (hy : 0 < y.2) (hz : 0 < z.2) (h1 : flt x y) (h2 : flt y z) : flt x z := by
  unfold flt at *
  have a := Int.mul_lt_mul_of_pos_right h1 hz
  have b := Int.mul_lt_mul_of_pos_right h2 hx
  refine Int.lt_of_mul_lt_mul_right (a := y.2) ?_ (Int.le_of_lt hy)
  have e1 : x.1 * z.2 * y.2 = x.1 * y.2 * z.2 := by grind
  have e2 : z.1 * x.2 * y.2 = z.1 * y.2 * x.2 := by grind
  have e3 : y.1 * x.2 * z.2 = y.1 * z.2 * x.2 := by grind
  omega
/-! rising lists -/
/-- how many lead with fractions below x -/
def fpos (x : Fr) : List Fr → Nat
  | [] => 0
  | y :: t => if flt y x then fpos x t + 1 else 0
/-- x put at its place, once -/
def fins (x : Fr) : List Fr → List Fr
  | [] => [x]
  | y :: t => if flt y x then y :: fins x t else if y = x then y :: t else x :: y :: t
abbrev fg (L : List Fr) (j : Nat) : Fr := L.getD j fr0
theorem fpos_le (x : Fr) (L : List Fr) : fpos x L ≤ L.length := by
  induction L with
  | nil => exact Nat.le_refl 0
  | cons y t ih =>
    unfold fpos
    split
    · exact Nat.succ_le_succ ih
    · exact Nat.zero_le _
theorem fpos_lt (x : Fr) (L : List Fr) : ∀ j, j < fpos x L → flt (fg L j) x := by
  induction L with
  | nil => intro j h; exact absurd h (Nat.not_lt_zero j)
  | cons y t ih =>
    intro j h
    unfold fpos at h
    split at h
    case isTrue hy =>
      cases j with
      | zero => exact hy
      | succ j => exact ih j (Nat.lt_of_succ_lt_succ h)
    case isFalse => exact absurd h (Nat.not_lt_zero j)
theorem fpos_ge (x : Fr) (L : List Fr) : fpos x L < L.length → ¬ flt (fg L (fpos x L)) x := by
  induction L with
  | nil => intro h; exact absurd h (Nat.not_lt_zero _)
  | cons y t ih =>
    intro h
    unfold fpos at h ⊢
    split at h
    case isTrue hy =>
      rw [if_pos hy]
      exact ih (Nat.lt_of_succ_lt_succ h)
    case isFalse hy =>
      rw [if_neg hy]
      exact hy
theorem fpos_eq {x : Fr} {L : List Fr} {p : Nat} (h1 : p ≤ L.length) (h2 : ∀ j, j < p → flt (fg L j) x) (h3 : p < L.length → ¬ flt (fg L p) x) : fpos x L = p := by
  have a := fpos_lt x L
  have b := fpos_ge x L
  have c := fpos_le x L
  rcases Nat.lt_trichotomy (fpos x L) p with h | h | h
  · exact absurd (h2 _ h) (b (by omega))
  · exact h
  · exact absurd (a _ h) (h3 (by omega))
theorem fins_in {x : Fr} {L : List Fr} (h : fpos x L < L.length) (he : fg L (fpos x L) = x) : fins x L = L := by
  induction L with
  | nil => exact absurd h (Nat.not_lt_zero _)
  | cons y t ih =>
    unfold fpos at h he
    unfold fins
    split at h
    case isTrue hy =>
      rw [if_pos hy] at he ⊢
      rw [ih (Nat.lt_of_succ_lt_succ h) he]
    case isFalse hy =>
      rw [if_neg hy] at he ⊢
      have : y = x := he
      rw [if_pos this]
theorem fins_new {x : Fr} {L : List Fr} (h : ¬ (fpos x L < L.length ∧ fg L (fpos x L) = x)) : (fins x L).length = L.length + 1 ∧ ∀ j, fg (fins x L) j = if j < fpos x L then fg L j else if j = fpos x L then x else fg L (j - 1) := by
  induction L with
  | nil =>
    refine ⟨rfl, fun j => ?_⟩
    cases j with
    | zero => rfl
    | succ j => rfl
  | cons y t ih =>
    unfold fpos at h
    by_cases hy : flt y x
    · rw [if_pos hy] at h
      have h2 : ¬ (fpos x t < t.length ∧ fg t (fpos x t) = x) := fun q => h ⟨Nat.succ_lt_succ q.1, q.2⟩
      obtain ⟨i1, i2⟩ := ih h2
      have e : fins x (y :: t) = y :: fins x t := by show (if flt y x then _ else _) = _; rw [if_pos hy]
      have e2 : fpos x (y :: t) = fpos x t + 1 := by show (if flt y x then _ else _) = _; rw [if_pos hy]
      rw [e, e2]
      refine ⟨by simp [i1], fun j => ?_⟩
      cases j with
      | zero => rfl
      | succ j =>
        have := i2 j
        show fg (fins x t) j = _
        rw [this]
        by_cases c1 : j < fpos x t
        · rw [if_pos c1, if_pos (show j + 1 < fpos x t + 1 by omega)]; rfl
        · rw [if_neg c1, if_neg (show ¬ j + 1 < fpos x t + 1 by omega)]
          by_cases c2 : j = fpos x t
          · rw [if_pos c2, if_pos (show j + 1 = fpos x t + 1 by omega)]
          · rw [if_neg c2, if_neg (show ¬ j + 1 = fpos x t + 1 by omega)]
            obtain ⟨i, rfl⟩ : ∃ i, j = i + 1 := ⟨j - 1, by omega⟩
            rfl
    · rw [if_neg hy] at h
      have h2 : ¬ y = x := fun q => h ⟨Nat.succ_pos _, q⟩
      have e : fins x (y :: t) = x :: y :: t := by show (if flt y x then _ else _) = _; rw [if_neg hy, if_neg h2]
      have e2 : fpos x (y :: t) = 0 := by show (if flt y x then _ else _) = _; rw [if_neg hy]
      rw [e, e2]
      refine ⟨rfl, fun j => ?_⟩
      cases j with
      | zero => rfl
      | succ j => rfl
/-- all in lowest terms, rising -/
def fup (L : List Fr) : Prop := (∀ j, j < L.length → fok (fg L j)) ∧ ∀ i j, i < j → j < L.length → flt (fg L i) (fg L j)
theorem fup_nil : fup [] := ⟨fun j h => absurd h (Nat.not_lt_zero j), fun i j _ h => absurd h (Nat.not_lt_zero j)⟩
theorem fup_ins {x : Fr} {L : List Fr} (hx : fok x) (h : fup L) : fup (fins x L) := by
  by_cases c : fpos x L < L.length ∧ fg L (fpos x L) = x
  · rw [fins_in c.1 c.2]; exact h
  · obtain ⟨e1, e2⟩ := fins_new c
    have b1 := fpos_lt x L
    have b2 := fpos_ge x L
    have b3 := fpos_le x L
    have above : ∀ j, fpos x L ≤ j → j < L.length → flt x (fg L j) := by
      intro j h1 h2
      have h3 : flt x (fg L (fpos x L)) := by
        apply Classical.byContradiction
        intro q
        exact c ⟨by omega, fok_lt (h.1 _ (by omega)) hx (b2 (by omega)) q⟩
      rcases Nat.eq_or_lt_of_le h1 with q | q
      · rw [← q]; exact h3
      · exact flt_tr hx.1 (h.1 _ (by omega)).1 (h.1 _ h2).1 h3 (h.2 _ _ q h2)
    refine ⟨fun j hj => ?_, fun i j hij hj => ?_⟩
    · rw [e2]
      split
      · exact h.1 j (by omega)
      · split
        · exact hx
        · exact h.1 (j - 1) (by omega)
    · rw [e2 i, e2 j]
      by_cases a1 : i < fpos x L
      · rw [if_pos a1]
        by_cases a2 : j < fpos x L
        · rw [if_pos a2]; exact h.2 i j hij (by omega)
        · rw [if_neg a2]
          by_cases a3 : j = fpos x L
          · rw [if_pos a3]; exact b1 i a1
          · rw [if_neg a3]; exact h.2 i (j - 1) (by omega) (by omega)
      · rw [if_neg a1, if_neg (show ¬ j < fpos x L by omega), if_neg (show ¬ j = fpos x L by omega)]
        by_cases a3 : i = fpos x L
        · rw [if_pos a3]; exact above (j - 1) (by omega) (by omega)
        · rw [if_neg a3]; exact h.2 (i - 1) (j - 1) (by omega) (by omega)
theorem fins_len (x : Fr) (L : List Fr) : (fins x L).length ≤ L.length + 1 := by
  by_cases c : fpos x L < L.length ∧ fg L (fpos x L) = x
  · rw [fins_in c.1 c.2]; omega
  · rw [(fins_new c).1]; omega
/-- which piece of the axis: 2 k between marks, 2 k + 1 the mark k -/
def fpc (x : Fr) (L : List Fr) : Nat := if fpos x L < L.length ∧ fg L (fpos x L) = x then 2 * fpos x L + 1 else 2 * fpos x L
end
section
/-! the worlds: what the cells of a Marks, of the class, of the reference hold -/
abbrev KS : Type := Int32 × (Nat → Int64) × (Nat → Int64)
def KS.cnt (s : KS) : Int32 := s.1
def KS.up (s : KS) : Nat → Int64 := s.2.1
def KS.dn (s : KS) : Nat → Int64 := s.2.2
def KS.set_cnt (s : KS) (v : Int32) : KS := (v, s.2.1, s.2.2)
def KS.set_up (s : KS) (v : Nat → Int64) : KS := (s.1, v, s.2.2)
def KS.set_dn (s : KS) (v : Nat → Int64) : KS := (s.1, s.2.1, v)
/-- a Marks at h 0, its rows at h 1, h 2 -/
def WK (h : Nat → Nat) (k : Nat → ClassId) (s : KS) : va_W := [(h 0, .inr (0, [.ref (h 1), .ref (h 2), .int (KS.cnt s)])), (h 1, .inl (k 1, 15, .inr (.inl (KS.up s)))), (h 2, .inl (k 2, 15, .inr (.inl (KS.dn s))))]
abbrev YK (k : Nat → ClassId) : List (ClassId × FieldType) := [(k 1, .long), (k 2, .long)]
/-- the one word that no list of good words carries -/
abbrev nestW : Cond := .fieldLinkNest RC 77 RK "count" "I" RC
/-- what a method that writes nothing finds -/
def pRo (D : va_G) (ws : va_W) (tys : List (ClassId × FieldType)) (U : State) : Prop := va_P D vwCl ws U.heap ∧ va_K D vwCl tys U ∧ va_Nw nestW U
/-- what a method that writes finds -/
def pRw (D : va_G) (ws : va_W) (tys : List (ClassId × FieldType)) (sz : Nat) (U : State) : Prop := U.heap.size = sz ∧ va_P D vwCl ws U.heap ∧ va_K D vwCl tys U ∧ va_Nw nestW U ∧ va_D (fun _ => True) ws
theorem pRo_bl {D : va_G} {ws : va_W} {tys : List (ClassId × FieldType)} {av : List Value} : FrameBlind (va_Pc av (pRo D ws tys)) := fun a U g mk q => by
  obtain ⟨q0, q1, q2, q3⟩ := q
  exact ⟨q0, q1, va_K.moved (u := U) (U := U.calling g mk a) (Vm.Alike.refl U.vm) q2, va_Nw.same rfl rfl q3⟩
theorem pRw_bl {D : va_G} {ws : va_W} {tys : List (ClassId × FieldType)} {sz : Nat} {av : List Value} : FrameBlind (va_Pc av (pRw D ws tys sz)) := fun a U g mk q => by
  obtain ⟨q0, q4, q1, q2, q3, q5⟩ := q
  exact ⟨q0, q4, q1, va_K.moved (u := U) (U := U.calling g mk a) (Vm.Alike.refl U.vm) q2, va_Nw.same rfl rfl q3, q5⟩
theorem pRo_at {D : va_G} {ws : va_W} {tys : List (ClassId × FieldType)} {s U : State} {H : Heap} (hP : va_P D vwCl ws H) (hK : va_K D vwCl tys s) (hN : va_Nw nestW s) (hU : U.heap = H) (hW : s.WarmedH U.vm) : pRo D ws tys U := ⟨by rw [hU]; exact hP, va_K.moved hW.alike hK, va_Nw.warmF hW hN⟩
theorem pRw_at {D : va_G} {ws : va_W} {tys : List (ClassId × FieldType)} {A : Nat → Prop} {s U : State} {H : Heap} (hP : va_P D vwCl ws H) (hK : va_K D vwCl tys s) (hN : va_Nw nestW s) (hD : va_D A ws) (hU : U.heap = H) (hW : s.WarmedH U.vm) : pRw D ws tys H.size U := ⟨by rw [hU], by rw [hU]; exact hP, va_K.moved hW.alike hK, va_Nw.warmF hW hN, hD.weaken (fun _ _ _ _ => trivial)⟩
theorem pSt_bl {av : List Value} : FrameBlind (va_Pc av (fun _ => True)) := fun _ _ _ _ q => q
/-- what holds all through a body -/
def cxt (p : Program) (s : State) (m : MethodId) (args : Array Value) (meth : Method) (c : Code) (cc : ByteArray) (nL : Nat) (own : String) (ret : Option FieldType) : Prop := p.tables.exec = Jvm.exec ∧ c.code = cc ∧ meth.sig.returnType = ret ∧ c.maxLocals = nL ∧ s.vm.findClass own = some m.cls ∧ (∀ w ∈ cw, w.before args s = true) ∧ meth.locks = false
theorem gV {own C : String} {idx : Nat} {y : MethodName} {ws : List Cond} (h1 : Cond.methodLink own idx y ∈ cw) (h2 : Cond.instanceMethod y ∈ cw) (h3 : Cond.selects C y y ∈ cw) (h4 : Cond.initialized C ∈ cw) (h : GoodIn cw ws) : GoodIn cw (wsV own idx C y ws) := by
  intro w hw
  rcases List.mem_append.mp hw with q | q
  · rcases List.mem_cons.mp q with rfl | q
    · exact ⟨h1, cw_good _ h1⟩
    · rcases List.mem_cons.mp q with rfl | q
      · exact ⟨h2, cw_good _ h2⟩
      · rcases List.mem_cons.mp q with rfl | q
        · exact ⟨h3, cw_good _ h3⟩
        · rcases List.mem_singleton.mp q with rfl
          exact ⟨h4, cw_good _ h4⟩
  · exact h w q
theorem gS {own : String} {idx : Nat} {y : MethodName} {ws : List Cond} (h1 : Cond.methodLink own idx y ∈ cw) (h2 : Cond.static y ∈ cw) (h4 : Cond.initialized y.cls ∈ cw) (h : GoodIn cw ws) : GoodIn cw (va_wsS own idx y ws) := by
  intro w hw
  rcases List.mem_append.mp hw with q | q
  · rcases List.mem_cons.mp q with rfl | q
    · exact ⟨h1, cw_good _ h1⟩
    · rcases List.mem_cons.mp q with rfl | q
      · exact ⟨h2, cw_good _ h2⟩
      · rcases List.mem_singleton.mp q with rfl
        exact ⟨h4, cw_good _ h4⟩
  · exact h w q
/-! what lcmp's answer says -/
theorem lgc_eq {x y : Int64} : lg_cmp x y = 0 ↔ x = y := by
  unfold lg_cmp
  by_cases h1 : y < x
  · simp [h1]; intro h; rw [h] at h1; exact absurd h1 (by simp)
  · by_cases h2 : x = y <;> simp [h1, h2]
theorem lgc_gt {x y : Int64} : 0 < lg_cmp x y ↔ y < x := by
  unfold lg_cmp
  by_cases h1 : y < x
  · simp [h1]
  · by_cases h2 : x = y <;> simp [h1, h2]
theorem lgc_le {x y : Int64} : lg_cmp x y ≤ 0 ↔ x ≤ y := by
  have h := @lgc_gt x y
  rw [Int32.le_iff_toInt_le, Int64.le_iff_toInt_le]
  rw [Int32.lt_iff_toInt_lt, Int64.lt_iff_toInt_lt] at h
  omega
theorem lgc_lt {x y : Int64} : lg_cmp x y < 0 ↔ x < y := by
  have h := @lgc_gt x y
  have h2 := @lgc_eq x y
  rw [← Int32.toInt_inj, ← Int64.toInt_inj] at h2
  rw [Int32.lt_iff_toInt_lt, Int64.lt_iff_toInt_lt] at h ⊢
  simp only [Int32.toInt_zero] at *
  omega
theorem lgc_ge {x y : Int64} : 0 ≤ lg_cmp x y ↔ y ≤ x := by
  have h := @lgc_lt x y
  rw [Int32.le_iff_toInt_le, Int64.le_iff_toInt_le]
  rw [Int32.lt_iff_toInt_lt, Int64.lt_iff_toInt_lt] at h
  omega
end
section
def w_JL_compare (post : Int32 → Prop) (p0 : Int64) (p1 : Int64) : Prop := (p1 ≤ p0 → ((¬ p0 = p1 → (post 1)) ∧ (p0 = p1 → (post 0)))) ∧ (¬ p1 ≤ p0 → (post (-1)))
set_option maxHeartbeats 4000000 in
set_option maxRecDepth 100000 in
theorem t_JL_compare (l : Launch) (p0 : Int64) (p1 : Int64) {post : Int32 → Prop} (hw : w_JL_compare post p0 p1) : Met l y_JL_compare (Cond.code y_JL_compare prog_10_method_42_code 4 (some .int) :: cw) ({ frames := 0, cells := 0, slots := 0, locals := 0 } : Room) (va_Pc [.long p0, .long p1] (fun _ => True)) (vp_Si post) 0 0 (fun _ => False) := by
  refine Met.ofW (cc := prog_10_method_42_code) (maxL := 4) (ret := (some .int)) (by decide) rfl ?_
  intro p e s m args below meth c s₁ B hml hv
  obtain ⟨rfl, -⟩ := hv
  have hx := B.exec
  have hb := B.bytes
  have hr := B.returns
  have hts : ∀ w ∈ cw, w.before _ s = true := fun w h => atoms_spec (ws := (Cond.code y_JL_compare prog_10_method_42_code 4 (some .int) :: cw)) B.pre w (List.mem_cons_of_mem _ h)
  have hown : s.vm.findClass RJL = some m.cls := findClass_of_methodNamed B.named
  have hlocks := B.notSynchronized
  have C0 : cxt p s m _ meth c prog_10_method_42_code 4 RJL (some .int) := ⟨hx, hb, hr, hml, hown, hts, hlocks⟩
  have hl := lv_entry ([.long p0, .long p1]) (n := 4) (Nat.le_of_ble_eq_true rfl)
  rw [lg_entry_eq]
  generalize (lg_sl ([.long p0, .long p1]) ++ List.replicate (4 - (lg_sl ([.long p0, .long p1])).length) Slot.unset).toArray = ls at hl ⊢
  have hl : lv_has ls 4 [(0, .long p0), (2, .long p1)] := hl
  unfold w_JL_compare at hw
  refine lv_lload_n hx hb d_JL_compare_0 rfl (lv_at hl 0 rfl) ?_
  refine lv_lload_n hx hb d_JL_compare_1 rfl (lv_at hl 1 rfl) ?_
  refine W.lcmp hx hb d_JL_compare_2 ?_
  refine lv_if_ge (tgt := 10) hx hb d_JL_compare_3 (by decide) (fun c1 => ?_) (fun c1 => ?_)
  · have c1 : p1 ≤ p0 := (lgc_ge.mp c1)
    have hw := hw.1 c1
    refine lv_lload_n hx hb d_JL_compare_10 rfl (lv_at hl 0 rfl) ?_
    refine lv_lload_n hx hb d_JL_compare_11 rfl (lv_at hl 1 rfl) ?_
    refine W.lcmp hx hb d_JL_compare_12 ?_
    refine lv_if_ne (tgt := 20) hx hb d_JL_compare_13 (by decide) (fun c2 => ?_) (fun c2 => ?_)
    · have c2 : ¬ p0 = p1 := (fun q => c2 (lgc_eq.mpr q))
      have hw := hw.1 c2
      refine lv_iconst (v := 1) hx hb d_JL_compare_20 (by decide) ?_
      exact W.iret (v := 1) hx hb hr (fun t ht hW => ⟨1, rfl, hw, ht⟩) (fun _ h => by cases h) d_JL_compare_21
    · have c2 : p0 = p1 := (lgc_eq.mp c2)
      have hw := hw.2 c2
      refine lv_iconst (v := 0) hx hb d_JL_compare_16 (by decide) ?_
      refine lv_goto (tgt := 21) hx hb d_JL_compare_17 (by decide) ?_
      exact W.iret (v := 0) hx hb hr (fun t ht hW => ⟨0, rfl, hw, ht⟩) (fun _ h => by cases h) d_JL_compare_21
  · have c1 : ¬ p1 ≤ p0 := (fun q => c1 (lgc_ge.mpr q))
    have hw := hw.2 c1
    refine lv_iconst (v := (-1)) hx hb d_JL_compare_6 (by decide) ?_
    refine lv_goto (tgt := 21) hx hb d_JL_compare_7 (by decide) ?_
    exact W.iret (v := (-1)) hx hb hr (fun t ht hW => ⟨(-1), rfl, hw, ht⟩) (fun _ h => by cases h) d_JL_compare_21
def w_K_commonDivisor_9 (post : Int64 → Prop) : Nat → Int64 → Int64 → Int32 → Prop
  | 0, _, _, _ => False
  | n + 1, v4, v6, v8 => (100 ≤ v8 → (post (if 1 < v4 then v4 else 1))) ∧ (¬ 100 ≤ v8 → ((v6 = 0 → (post (if 1 < v4 then v4 else 1))) ∧ (¬ v6 = 0 → (¬ v6 = 0 ∧ (∀ y5 : Int64, y5 = (v4 - v4 / v6 * v6) → (w_K_commonDivisor_9 post n v6 y5 (v8 + 1)))))))
set_option maxHeartbeats 4000000 in
set_option maxRecDepth 100000 in
theorem k_K_commonDivisor_9 {p : Program} {l : Launch} {e : Env} {s : State} {m : MethodId} {args : Array Value} {below : List Frame} {meth : Method} {c : Code} {post : Int64 → Prop} (C0 : cxt p s m args meth c prog_2_method_6_code 11 RK (some .long)) : ∀ (n : Nat), ∀ (v4 : Int64) (v6 : Int64) (v8 : Int32), ∀ ls, lv_has ls 11 [(4, .long v4), (6, .long v6), (8, .int v8)] → w_K_commonDivisor_9 post n v4 v6 v8 → W p l e ({ frames := 1, cells := 0, slots := 0, locals := 23 } : Room) s m args below meth c s.heap [] 0 0 (MQ below (vp_Sl post) args s 0 0 (fun _ => False)) (F0 m 9 ls []) := by
  obtain ⟨hx, hb, hr, hml, hown, hts, hlocks⟩ := id C0
  intro n
  induction n with
  | zero =>
    intro v4 v6 v8 ls hl hw
    exact False.elim hw
  | succ n ih =>
    intro v4 v6 v8 ls hl hw
    rw [w_K_commonDivisor_9] at hw
    refine lv_iload hx hb d_K_commonDivisor_9 (lv_at hl 2 rfl) ?_
    refine lv_bipush (v := 100) hx hb d_K_commonDivisor_11 (by decide) ?_
    refine lv_icmp_ge (tgt := 44) hx hb d_K_commonDivisor_13 (by decide) (fun c2 => ?_) (fun c2 => ?_)
    · skip
      have hw := hw.1 c2
      refine lv_lload hx hb d_K_commonDivisor_44 (lv_at hl 0 rfl) ?_
      refine lv_lconst (v := 1) hx hb d_K_commonDivisor_46 (by decide) ?_
      refine va_mmax_long hx hb (hml.trans hl.1.symm) hown (hts _ m_86) (hts _ m_87) (hts _ m_4) (hts _ m_88) (Nat.le_of_ble_eq_true rfl) (Nat.le_of_ble_eq_true rfl) (Nat.le_of_ble_eq_true rfl) (Nat.le_of_ble_eq_true rfl) d_K_commonDivisor_47 ?_
      exact W.lret (v := (if 1 < v4 then v4 else 1)) hx hb hr (fun t ht hW => ⟨(if 1 < v4 then v4 else 1), rfl, hw, ht⟩) (fun _ h => by cases h) d_K_commonDivisor_50
    · skip
      have hw := hw.2 c2
      refine lv_lload hx hb d_K_commonDivisor_16 (lv_at hl 1 rfl) ?_
      refine lv_lconst (v := 0) hx hb d_K_commonDivisor_18 (by decide) ?_
      refine W.lcmp hx hb d_K_commonDivisor_19 ?_
      refine lv_if_eq (tgt := 44) hx hb d_K_commonDivisor_20 (by decide) (fun c3 => ?_) (fun c3 => ?_)
      · have c3 : v6 = 0 := (lgc_eq.mp c3)
        have hw := hw.1 c3
        refine lv_lload hx hb d_K_commonDivisor_44 (lv_at hl 0 rfl) ?_
        refine lv_lconst (v := 1) hx hb d_K_commonDivisor_46 (by decide) ?_
        refine va_mmax_long hx hb (hml.trans hl.1.symm) hown (hts _ m_86) (hts _ m_87) (hts _ m_4) (hts _ m_88) (Nat.le_of_ble_eq_true rfl) (Nat.le_of_ble_eq_true rfl) (Nat.le_of_ble_eq_true rfl) (Nat.le_of_ble_eq_true rfl) d_K_commonDivisor_47 ?_
        exact W.lret (v := (if 1 < v4 then v4 else 1)) hx hb hr (fun t ht hW => ⟨(if 1 < v4 then v4 else 1), rfl, hw, ht⟩) (fun _ h => by cases h) d_K_commonDivisor_50
      · have c3 : ¬ v6 = 0 := (fun q => c3 (lgc_eq.mpr q))
        have hw := hw.2 c3
        refine lv_lload hx hb d_K_commonDivisor_23 (lv_at hl 0 rfl) ?_
        refine lv_lload hx hb d_K_commonDivisor_25 (lv_at hl 1 rfl) ?_
        obtain ⟨h4, hw⟩ := hw
        refine lv_lrem hx hb d_K_commonDivisor_27 h4 ?_
        refine lv_topl (fun y5 ey5 => ?_)
        have hw := hw y5 ey5
        refine lv_lstore (lv' := [(9, .long y5), (4, .long v4), (6, .long v6), (8, .int v8)]) hx hb d_K_commonDivisor_28 hl (by decide) rfl (fun ls hl => ?_)
        refine lv_lload hx hb d_K_commonDivisor_30 (lv_at hl 2 rfl) ?_
        refine lv_lstore (lv' := [(4, .long v6), (9, .long y5), (6, .long v6), (8, .int v8)]) hx hb d_K_commonDivisor_32 hl (by decide) rfl (fun ls hl => ?_)
        refine lv_lload hx hb d_K_commonDivisor_34 (lv_at hl 1 rfl) ?_
        refine lv_lstore (lv' := [(6, .long y5), (4, .long v6), (9, .long y5), (8, .int v8)]) hx hb d_K_commonDivisor_36 hl (by decide) rfl (fun ls hl => ?_)
        refine lv_iinc (v := (v8 + 1)) (lv' := [(8, .int (v8 + 1)), (6, .long y5), (4, .long v6), (9, .long y5)]) hx hb d_K_commonDivisor_38 hl (k := 3) rfl rfl (by decide) rfl (fun ls hl => ?_)
        refine lv_goto (tgt := 9) hx hb d_K_commonDivisor_41 (by decide) ?_
        exact ih v6 y5 (v8 + 1) ls (lv_sub hl [2, 1, 0] rfl) hw
def w_K_commonDivisor (post : Int64 → Prop) (p0 : Int64) (p1 : Int64) : Prop := ∃ n, w_K_commonDivisor_9 post n p0 p1 0
set_option maxHeartbeats 4000000 in
set_option maxRecDepth 100000 in
theorem t_K_commonDivisor (l : Launch) (p0 : Int64) (p1 : Int64) {post : Int64 → Prop} (hw : w_K_commonDivisor post p0 p1) : Met l y_K_commonDivisor (Cond.code y_K_commonDivisor prog_2_method_6_code 11 (some .long) :: cw) ({ frames := 1, cells := 0, slots := 0, locals := 23 } : Room) (va_Pc [.long p0, .long p1] (fun _ => True)) (vp_Sl post) 0 0 (fun _ => False) := by
  refine Met.ofW (cc := prog_2_method_6_code) (maxL := 11) (ret := (some .long)) (by decide) rfl ?_
  intro p e s m args below meth c s₁ B hml hv
  obtain ⟨rfl, -⟩ := hv
  have hx := B.exec
  have hb := B.bytes
  have hr := B.returns
  have hts : ∀ w ∈ cw, w.before _ s = true := fun w h => atoms_spec (ws := (Cond.code y_K_commonDivisor prog_2_method_6_code 11 (some .long) :: cw)) B.pre w (List.mem_cons_of_mem _ h)
  have hown : s.vm.findClass RK = some m.cls := findClass_of_methodNamed B.named
  have hlocks := B.notSynchronized
  have C0 : cxt p s m _ meth c prog_2_method_6_code 11 RK (some .long) := ⟨hx, hb, hr, hml, hown, hts, hlocks⟩
  have hl := lv_entry ([.long p0, .long p1]) (n := 11) (Nat.le_of_ble_eq_true rfl)
  rw [lg_entry_eq]
  generalize (lg_sl ([.long p0, .long p1]) ++ List.replicate (11 - (lg_sl ([.long p0, .long p1])).length) Slot.unset).toArray = ls at hl ⊢
  have hl : lv_has ls 11 [(0, .long p0), (2, .long p1)] := hl
  unfold w_K_commonDivisor at hw
  refine lv_lload_n hx hb d_K_commonDivisor_0 rfl (lv_at hl 0 rfl) ?_
  refine lv_lstore (lv' := [(4, .long p0), (0, .long p0), (2, .long p1)]) hx hb d_K_commonDivisor_1 hl (by decide) rfl (fun ls hl => ?_)
  refine lv_lload_n hx hb d_K_commonDivisor_3 rfl (lv_at hl 2 rfl) ?_
  refine lv_lstore (lv' := [(6, .long p1), (4, .long p0), (0, .long p0), (2, .long p1)]) hx hb d_K_commonDivisor_4 hl (by decide) rfl (fun ls hl => ?_)
  refine lv_iconst (v := 0) hx hb d_K_commonDivisor_6 (by decide) ?_
  refine lv_istore (lv' := [(8, .int 0), (6, .long p1), (4, .long p0), (0, .long p0), (2, .long p1)]) hx hb d_K_commonDivisor_7 hl (by decide) rfl (fun ls hl => ?_)
  obtain ⟨n1, hw⟩ := hw
  exact k_K_commonDivisor_9 C0 n1 p0 p1 0 ls (lv_sub hl [2, 1, 0] rfl) hw
def w_K_reduced (post : Int64 → Prop) (p0 : Int64) (p1 : Int64) (p2 : Int32) : Prop := w_K_commonDivisor (fun r1 => ((¬ p2 = 0 → (¬ r1 = 0 ∧ (post (p1 / r1)))) ∧ (p2 = 0 → (¬ r1 = 0 ∧ (post (p0 / r1)))))) (if 0 < p0 then p0 else -p0) p1
set_option maxHeartbeats 4000000 in
set_option maxRecDepth 100000 in
theorem t_K_reduced (l : Launch) (p0 : Int64) (p1 : Int64) (p2 : Int32) {post : Int64 → Prop} (hw : w_K_reduced post p0 p1 p2) : Met l y_K_reduced (Cond.code y_K_reduced prog_2_method_5_code 7 (some .long) :: cw) ({ frames := 2, cells := 0, slots := 0, locals := 53 } : Room) (va_Pc [.long p0, .long p1, .int p2] (fun _ => True)) (vp_Sl post) 0 0 (fun _ => False) := by
  refine Met.ofW (cc := prog_2_method_5_code) (maxL := 7) (ret := (some .long)) (by decide) rfl ?_
  intro p e s m args below meth c s₁ B hml hv
  obtain ⟨rfl, -⟩ := hv
  have hx := B.exec
  have hb := B.bytes
  have hr := B.returns
  have hts : ∀ w ∈ cw, w.before _ s = true := fun w h => atoms_spec (ws := (Cond.code y_K_reduced prog_2_method_5_code 7 (some .long) :: cw)) B.pre w (List.mem_cons_of_mem _ h)
  have hown : s.vm.findClass RK = some m.cls := findClass_of_methodNamed B.named
  have hlocks := B.notSynchronized
  have C0 : cxt p s m _ meth c prog_2_method_5_code 7 RK (some .long) := ⟨hx, hb, hr, hml, hown, hts, hlocks⟩
  have hl := lv_entry ([.long p0, .long p1, .int p2]) (n := 7) (Nat.le_of_ble_eq_true rfl)
  rw [lg_entry_eq]
  generalize (lg_sl ([.long p0, .long p1, .int p2]) ++ List.replicate (7 - (lg_sl ([.long p0, .long p1, .int p2])).length) Slot.unset).toArray = ls at hl ⊢
  have hl : lv_has ls 7 [(0, .long p0), (2, .long p1), (4, .int p2)] := hl
  unfold w_K_reduced at hw
  refine lv_lload_n hx hb d_K_reduced_0 rfl (lv_at hl 0 rfl) ?_
  refine va_mabs_long hx hb (hml.trans hl.1.symm) hown (hts _ m_80) (hts _ m_81) (hts _ m_4) (hts _ m_82) (Nat.le_of_ble_eq_true rfl) (Nat.le_of_ble_eq_true rfl) (Nat.le_of_ble_eq_true rfl) (Nat.le_of_ble_eq_true rfl) d_K_reduced_1 ?_
  refine lv_lload_n hx hb d_K_reduced_4 rfl (lv_at hl 1 rfl) ?_
  refine vp_callSl (va_Run.run (va_runS (As := [.long (if 0 < p0 then p0 else -p0), .long p1]) (rest := []) ⟨hx, hb, hml, hown, hts⟩ (t_K_commonDivisor l (if 0 < p0 then p0 else -p0) p1 hw) (va_cwS 2 hts (gS m_83 m_84 m_2 (cw_call m_85)) rfl rfl rfl (by decide +kernel) ⟨Nat.le_of_ble_eq_true rfl, Nat.le_of_ble_eq_true rfl⟩) ⟨pSt_bl, fun U hU hW => ⟨rfl, trivial⟩⟩ rfl rfl hl.1 rfl (lv_room (Nat.le_of_ble_eq_true rfl)) d_K_reduced_5 ⟨Nat.le_of_ble_eq_true rfl, Nat.le_of_ble_eq_true rfl⟩)) (fun r1 hw => ?_)
  refine lv_lstore (lv' := [(5, .long r1), (0, .long p0), (2, .long p1), (4, .int p2)]) hx hb d_K_reduced_8 hl (by decide) rfl (fun ls hl => ?_)
  refine lv_iload hx hb d_K_reduced_10 (lv_at hl 3 rfl) ?_
  refine lv_if_ne (tgt := 19) hx hb d_K_reduced_12 (by decide) (fun c2 => ?_) (fun c2 => ?_)
  · skip
    have hw := hw.1 c2
    refine lv_lload_n hx hb d_K_reduced_19 rfl (lv_at hl 2 rfl) ?_
    refine lv_lload hx hb d_K_reduced_20 (lv_at hl 0 rfl) ?_
    obtain ⟨h3, hw⟩ := hw
    refine lv_ldiv hx hb d_K_reduced_22 h3 ?_
    exact W.lret (v := (p1 / r1)) hx hb hr (fun t ht hW => ⟨(p1 / r1), rfl, hw, ht⟩) (fun _ h => by cases h) d_K_reduced_23
  · skip
    have hw := hw.2 c2
    refine lv_lload_n hx hb d_K_reduced_15 rfl (lv_at hl 1 rfl) ?_
    refine lv_goto (tgt := 20) hx hb d_K_reduced_16 (by decide) ?_
    refine lv_lload hx hb d_K_reduced_20 (lv_at hl 0 rfl) ?_
    obtain ⟨h4, hw⟩ := hw
    refine lv_ldiv hx hb d_K_reduced_22 h4 ?_
    exact W.lret (v := (p0 / r1)) hx hb hr (fun t ht hW => ⟨(p0 / r1), rfl, hw, ht⟩) (fun _ h => by cases h) d_K_reduced_23
def w_K_pieceOf_3 (st : KS) (post : Int32 → Prop) : Nat → Int64 → Int64 → Int32 → Prop
  | 0, _, _, _ => False
  | n + 1, v1, v3, v5 => ((KS.cnt st) ≤ v5 → (post (2 * (KS.cnt st)))) ∧ (¬ (KS.cnt st) ≤ v5 → (vp_in v5 15 ∧ (w_JL_compare (fun r4 => ((0 < r4 → (w_K_pieceOf_3 st post n v1 v3 (v5 + 1))) ∧ (¬ 0 < r4 → ((¬ r4 = 0 → (post (2 * v5))) ∧ (r4 = 0 → (post ((2 * v5) + 1))))))) (v1 * ((KS.dn st) v5.toNatClampNeg)) (((KS.up st) v5.toNatClampNeg) * v3))))
set_option maxHeartbeats 4000000 in
set_option maxRecDepth 100000 in
theorem k_K_pieceOf_3 {p : Program} {l : Launch} {e : Env} {s : State} {m : MethodId} {args : Array Value} {below : List Frame} {meth : Method} {c : Code} {dC : Nat → ClassId} {dI : Nat → Nat → Nat} {h : Nat → Nat} {k : Nat → ClassId} {st : KS} {post : Int32 → Prop} (C0 : cxt p s m args meth c prog_2_method_3_code 7 RK (some .int)) (hK : va_K (dC, dI) vwCl (YK k) s) (hN : va_Nw nestW s) (hP : va_P (dC, dI) vwCl (WK h k st) s.heap) : ∀ (n : Nat), ∀ (v1 : Int64) (v3 : Int64) (v5 : Int32), ∀ ls, lv_has ls 7 [(0, .ref (h 0)), (1, .long v1), (3, .long v3), (5, .int v5)] → w_K_pieceOf_3 st post n v1 v3 v5 → W p l e ({ frames := 1, cells := 0, slots := 0, locals := 23 } : Room) s m args below meth c s.heap [] 0 0 (MQ below (vp_Si post) args s 0 0 (fun _ => False)) (F0 m 3 ls []) := by
  obtain ⟨hx, hb, hr, hml, hown, hts, hlocks⟩ := id C0
  intro n
  induction n with
  | zero =>
    intro v1 v3 v5 ls hl hw
    exact False.elim hw
  | succ n ih =>
    intro v1 v3 v5 ls hl hw
    rw [w_K_pieceOf_3] at hw
    refine lv_iload hx hb d_K_pieceOf_3 (lv_at hl 3 rfl) ?_
    refine lv_aload_n hx hb d_K_pieceOf_5 rfl (lv_at hl 0 rfl) ?_
    refine va_get (D := (dC, dI)) (ci := 0) (v := .int (KS.cnt st)) (C := RK) (T := TK) (N := 3) hx hb hts i_K hown hK hP 0 rfl rfl 2 (by decide) (hts _ m_29) (fun _ h9 => h9) rfl d_K_pieceOf_6 ?_
    refine lv_icmp_ge (tgt := 65) hx hb d_K_pieceOf_9 (by decide) (fun c2 => ?_) (fun c2 => ?_)
    · skip
      have hw := hw.1 c2
      refine lv_iconst (v := 2) hx hb d_K_pieceOf_65 (by decide) ?_
      refine lv_aload_n hx hb d_K_pieceOf_66 rfl (lv_at hl 0 rfl) ?_
      refine va_get (D := (dC, dI)) (ci := 0) (v := .int (KS.cnt st)) (C := RK) (T := TK) (N := 3) hx hb hts i_K hown hK hP 0 rfl rfl 2 (by decide) (hts _ m_29) (fun _ h9 => h9) rfl d_K_pieceOf_67 ?_
      refine lv_imul hx hb d_K_pieceOf_70 ?_
      exact W.iret (v := (2 * (KS.cnt st))) hx hb hr (fun t ht hW => ⟨(2 * (KS.cnt st)), rfl, hw, ht⟩) (fun _ h => by cases h) d_K_pieceOf_71
    · skip
      have hw := hw.2 c2
      refine lv_lload_n hx hb d_K_pieceOf_12 rfl (lv_at hl 1 rfl) ?_
      refine lv_aload_n hx hb d_K_pieceOf_13 rfl (lv_at hl 0 rfl) ?_
      refine va_get (D := (dC, dI)) (ci := 0) (v := .ref (h 2)) (C := RK) (T := TK) (N := 3) hx hb hts i_K hown hK hP 0 rfl rfl 1 (by decide) (hts _ m_28) (fun _ h9 => h9) rfl d_K_pieceOf_14 ?_
      refine lv_iload hx hb d_K_pieceOf_17 (lv_at hl 3 rfl) ?_
      obtain ⟨h3, hw⟩ := hw
      refine va_lald hx hb hK hP 2 1 rfl rfl h3 d_K_pieceOf_19 ?_
      refine lv_lmul hx hb d_K_pieceOf_20 ?_
      refine lv_aload_n hx hb d_K_pieceOf_21 rfl (lv_at hl 0 rfl) ?_
      refine va_get (D := (dC, dI)) (ci := 0) (v := .ref (h 1)) (C := RK) (T := TK) (N := 3) hx hb hts i_K hown hK hP 0 rfl rfl 0 (by decide) (hts _ m_27) (fun _ h9 => h9) rfl d_K_pieceOf_22 ?_
      refine lv_iload hx hb d_K_pieceOf_25 (lv_at hl 3 rfl) ?_
      refine va_lald hx hb hK hP 1 0 rfl rfl h3 d_K_pieceOf_27 ?_
      refine lv_lload_n hx hb d_K_pieceOf_28 rfl (lv_at hl 2 rfl) ?_
      refine lv_lmul hx hb d_K_pieceOf_29 ?_
      refine vp_callSi (va_Run.run (va_runS (As := [.long (v1 * ((KS.dn st) v5.toNatClampNeg)), .long (((KS.up st) v5.toNatClampNeg) * v3)]) (rest := []) ⟨hx, hb, hml, hown, hts⟩ (t_JL_compare l (v1 * ((KS.dn st) v5.toNatClampNeg)) (((KS.up st) v5.toNatClampNeg) * v3) hw) (va_cwS 2 hts (gS m_62 m_63 m_3 (cw_call m_64)) rfl rfl rfl (by decide +kernel) ⟨Nat.le_of_ble_eq_true rfl, Nat.le_of_ble_eq_true rfl⟩) ⟨pSt_bl, fun U hU hW => ⟨rfl, trivial⟩⟩ rfl rfl hl.1 rfl (lv_room (Nat.le_of_ble_eq_true rfl)) d_K_pieceOf_30 ⟨Nat.le_of_ble_eq_true rfl, Nat.le_of_ble_eq_true rfl⟩)) (fun r4 hw => ?_)
      refine lv_istore (lv' := [(6, .int r4), (0, .ref (h 0)), (1, .long v1), (3, .long v3), (5, .int v5)]) hx hb d_K_pieceOf_33 hl (by decide) rfl (fun ls hl => ?_)
      refine lv_iload hx hb d_K_pieceOf_35 (lv_at hl 0 rfl) ?_
      refine lv_if_gt (tgt := 59) hx hb d_K_pieceOf_37 (by decide) (fun c5 => ?_) (fun c5 => ?_)
      · skip
        have hw := hw.1 c5
        refine lv_iinc (v := (v5 + 1)) (lv' := [(5, .int (v5 + 1)), (6, .int r4), (0, .ref (h 0)), (1, .long v1), (3, .long v3)]) hx hb d_K_pieceOf_59 hl (k := 4) rfl rfl (by decide) rfl (fun ls hl => ?_)
        refine lv_goto (tgt := 3) hx hb d_K_pieceOf_62 (by decide) ?_
        exact ih v1 v3 (v5 + 1) ls (lv_sub hl [2, 3, 4, 0] rfl) hw
      · skip
        have hw := hw.2 c5
        refine lv_iload hx hb d_K_pieceOf_40 (lv_at hl 0 rfl) ?_
        refine lv_if_ne (tgt := 54) hx hb d_K_pieceOf_42 (by decide) (fun c6 => ?_) (fun c6 => ?_)
        · skip
          have hw := hw.1 c6
          refine lv_iconst (v := 2) hx hb d_K_pieceOf_54 (by decide) ?_
          refine lv_iload hx hb d_K_pieceOf_55 (lv_at hl 4 rfl) ?_
          refine lv_imul hx hb d_K_pieceOf_57 ?_
          exact W.iret (v := (2 * v5)) hx hb hr (fun t ht hW => ⟨(2 * v5), rfl, hw, ht⟩) (fun _ h => by cases h) d_K_pieceOf_58
        · skip
          have hw := hw.2 c6
          refine lv_iconst (v := 2) hx hb d_K_pieceOf_45 (by decide) ?_
          refine lv_iload hx hb d_K_pieceOf_46 (lv_at hl 4 rfl) ?_
          refine lv_imul hx hb d_K_pieceOf_48 ?_
          refine lv_iconst (v := 1) hx hb d_K_pieceOf_49 (by decide) ?_
          refine lv_iadd hx hb d_K_pieceOf_50 ?_
          refine lv_goto (tgt := 58) hx hb d_K_pieceOf_51 (by decide) ?_
          exact W.iret (v := ((2 * v5) + 1)) hx hb hr (fun t ht hW => ⟨((2 * v5) + 1), rfl, hw, ht⟩) (fun _ h => by cases h) d_K_pieceOf_58
def w_K_pieceOf (st : KS) (post : Int32 → Prop) (p0 : Int64) (p1 : Int64) : Prop := ∃ n, w_K_pieceOf_3 st post n p0 p1 0
set_option maxHeartbeats 4000000 in
set_option maxRecDepth 100000 in
theorem t_K_pieceOf (l : Launch) (dC : Nat → ClassId) (dI : Nat → Nat → Nat) (h : Nat → Nat) (k : Nat → ClassId) (st : KS) (p0 : Int64) (p1 : Int64) {post : Int32 → Prop} (hw : w_K_pieceOf st post p0 p1) : Met l y_K_pieceOf (Cond.code y_K_pieceOf prog_2_method_3_code 7 (some .int) :: cw) ({ frames := 1, cells := 0, slots := 0, locals := 23 } : Room) (va_Pc [.ref (h 0), .long p0, .long p1] (pRo (dC, dI) (WK h k st) (YK k))) (vp_Si post) 0 0 (fun _ => False) := by
  refine Met.ofW (cc := prog_2_method_3_code) (maxL := 7) (ret := (some .int)) (by decide) rfl ?_
  intro p e s m args below meth c s₁ B hml hv
  obtain ⟨rfl, hP, hK, hN⟩ := hv
  have hx := B.exec
  have hb := B.bytes
  have hr := B.returns
  have hts : ∀ w ∈ cw, w.before _ s = true := fun w h => atoms_spec (ws := (Cond.code y_K_pieceOf prog_2_method_3_code 7 (some .int) :: cw)) B.pre w (List.mem_cons_of_mem _ h)
  have hown : s.vm.findClass RK = some m.cls := findClass_of_methodNamed B.named
  have hlocks := B.notSynchronized
  have C0 : cxt p s m _ meth c prog_2_method_3_code 7 RK (some .int) := ⟨hx, hb, hr, hml, hown, hts, hlocks⟩
  have hl := lv_entry ([.ref (h 0), .long p0, .long p1]) (n := 7) (Nat.le_of_ble_eq_true rfl)
  rw [lg_entry_eq]
  generalize (lg_sl ([.ref (h 0), .long p0, .long p1]) ++ List.replicate (7 - (lg_sl ([.ref (h 0), .long p0, .long p1])).length) Slot.unset).toArray = ls at hl ⊢
  have hl : lv_has ls 7 [(0, .ref (h 0)), (1, .long p0), (3, .long p1)] := hl
  unfold w_K_pieceOf at hw
  refine lv_iconst (v := 0) hx hb d_K_pieceOf_0 (by decide) ?_
  refine lv_istore (lv' := [(5, .int 0), (0, .ref (h 0)), (1, .long p0), (3, .long p1)]) hx hb d_K_pieceOf_1 hl (by decide) rfl (fun ls hl => ?_)
  obtain ⟨n1, hw⟩ := hw
  exact k_K_pieceOf_3 C0 hK hN hP n1 p0 p1 0 ls (lv_sub hl [1, 2, 3, 0] rfl) hw
def w_K_samplePart (st : KS) (post : Int64 → Prop) (p0 : Int32) (p1 : Int32) : Prop := (0 < (KS.cnt st) → ((0 < p0 → (∀ y3 : Int32, y3 = (p0 / 2) → ((y3 < (KS.cnt st) → ((¬ (p0 - p0 / 2 * 2) = 1 → (vp_in (y3 - 1) 15 ∧ (vp_in y3 15 ∧ (∀ y8 : Int64, y8 = ((((KS.up st) (y3 - 1).toNatClampNeg) * ((KS.dn st) y3.toNatClampNeg)) + (((KS.up st) y3.toNatClampNeg) * ((KS.dn st) (y3 - 1).toNatClampNeg))) → (w_K_reduced (fun r9 => (post r9)) y8 ((2 * ((KS.dn st) (y3 - 1).toNatClampNeg)) * ((KS.dn st) y3.toNatClampNeg)) p1))))) ∧ ((p0 - p0 / 2 * 2) = 1 → (vp_in y3 15 ∧ (w_K_reduced (fun r11 => (post r11)) ((KS.up st) y3.toNatClampNeg) ((KS.dn st) y3.toNatClampNeg) p1))))) ∧ (¬ y3 < (KS.cnt st) → (vp_in ((KS.cnt st) - 1) 15 ∧ (w_K_reduced (fun r13 => (post r13)) (((KS.up st) ((KS.cnt st) - 1).toNatClampNeg) + ((KS.dn st) ((KS.cnt st) - 1).toNatClampNeg)) ((KS.dn st) ((KS.cnt st) - 1).toNatClampNeg) p1)))))) ∧ (¬ 0 < p0 → (w_K_reduced (fun r14 => (post r14)) (((KS.up st) (0 : Int32).toNatClampNeg) - ((KS.dn st) (0 : Int32).toNatClampNeg)) ((KS.dn st) (0 : Int32).toNatClampNeg) p1)))) ∧ (¬ 0 < (KS.cnt st) → (w_K_reduced (fun r15 => (post r15)) (0 : Int64) (1 : Int64) p1))
set_option maxHeartbeats 4000000 in
set_option maxRecDepth 100000 in
theorem t_K_samplePart (l : Launch) (dC : Nat → ClassId) (dI : Nat → Nat → Nat) (h : Nat → Nat) (k : Nat → ClassId) (st : KS) (p0 : Int32) (p1 : Int32) {post : Int64 → Prop} (hw : w_K_samplePart st post p0 p1) : Met l y_K_samplePart (Cond.code y_K_samplePart prog_2_method_4_code 6 (some .long) :: cw) ({ frames := 3, cells := 0, slots := 0, locals := 79 } : Room) (va_Pc [.ref (h 0), .int p0, .int p1] (pRo (dC, dI) (WK h k st) (YK k))) (vp_Sl post) 0 0 (fun _ => False) := by
  refine Met.ofW (cc := prog_2_method_4_code) (maxL := 6) (ret := (some .long)) (by decide) rfl ?_
  intro p e s m args below meth c s₁ B hml hv
  obtain ⟨rfl, hP, hK, hN⟩ := hv
  have hx := B.exec
  have hb := B.bytes
  have hr := B.returns
  have hts : ∀ w ∈ cw, w.before _ s = true := fun w h => atoms_spec (ws := (Cond.code y_K_samplePart prog_2_method_4_code 6 (some .long) :: cw)) B.pre w (List.mem_cons_of_mem _ h)
  have hown : s.vm.findClass RK = some m.cls := findClass_of_methodNamed B.named
  have hlocks := B.notSynchronized
  have C0 : cxt p s m _ meth c prog_2_method_4_code 6 RK (some .long) := ⟨hx, hb, hr, hml, hown, hts, hlocks⟩
  have hl := lv_entry ([.ref (h 0), .int p0, .int p1]) (n := 6) (Nat.le_of_ble_eq_true rfl)
  rw [lg_entry_eq]
  generalize (lg_sl ([.ref (h 0), .int p0, .int p1]) ++ List.replicate (6 - (lg_sl ([.ref (h 0), .int p0, .int p1])).length) Slot.unset).toArray = ls at hl ⊢
  have hl : lv_has ls 6 [(0, .ref (h 0)), (1, .int p0), (2, .int p1)] := hl
  unfold w_K_samplePart at hw
  refine lv_aload_n hx hb d_K_samplePart_0 rfl (lv_at hl 0 rfl) ?_
  refine va_get (D := (dC, dI)) (ci := 0) (v := .int (KS.cnt st)) (C := RK) (T := TK) (N := 3) hx hb hts i_K hown hK hP 0 rfl rfl 2 (by decide) (hts _ m_29) (fun _ h9 => h9) rfl d_K_samplePart_1 ?_
  refine lv_if_gt (tgt := 14) hx hb d_K_samplePart_4 (by decide) (fun c1 => ?_) (fun c1 => ?_)
  · skip
    have hw := hw.1 c1
    refine lv_iload_n hx hb d_K_samplePart_14 rfl (lv_at hl 1 rfl) ?_
    refine lv_if_gt (tgt := 42) hx hb d_K_samplePart_15 (by decide) (fun c2 => ?_) (fun c2 => ?_)
    · skip
      have hw := hw.1 c2
      refine lv_iload_n hx hb d_K_samplePart_42 rfl (lv_at hl 1 rfl) ?_
      refine lv_iconst (v := 2) hx hb d_K_samplePart_43 (by decide) ?_
      refine lv_idiv hx hb d_K_samplePart_44 (by decide) ?_
      refine lv_topi (fun y3 ey3 => ?_)
      have hw := hw y3 ey3
      refine lv_istore_n (lv' := [(3, .int y3), (0, .ref (h 0)), (1, .int p0), (2, .int p1)]) hx hb d_K_samplePart_45 rfl hl (by decide) rfl (fun ls hl => ?_)
      refine lv_iload_n hx hb d_K_samplePart_46 rfl (lv_at hl 0 rfl) ?_
      refine lv_aload_n hx hb d_K_samplePart_47 rfl (lv_at hl 1 rfl) ?_
      refine va_get (D := (dC, dI)) (ci := 0) (v := .int (KS.cnt st)) (C := RK) (T := TK) (N := 3) hx hb hts i_K hown hK hP 0 rfl rfl 2 (by decide) (hts _ m_29) (fun _ h9 => h9) rfl d_K_samplePart_48 ?_
      refine lv_icmp_lt (tgt := 93) hx hb d_K_samplePart_51 (by decide) (fun c4 => ?_) (fun c4 => ?_)
      · skip
        have hw := hw.1 c4
        refine lv_iload_n hx hb d_K_samplePart_93 rfl (lv_at hl 2 rfl) ?_
        refine lv_iconst (v := 2) hx hb d_K_samplePart_94 (by decide) ?_
        refine lv_irem hx hb d_K_samplePart_95 (by decide) ?_
        refine lv_iconst (v := 1) hx hb d_K_samplePart_96 (by decide) ?_
        refine lv_icmp_ne (tgt := 117) hx hb d_K_samplePart_97 (by decide) (fun c5 => ?_) (fun c5 => ?_)
        · skip
          have hw := hw.1 c5
          refine lv_aload_n hx hb d_K_samplePart_117 rfl (lv_at hl 1 rfl) ?_
          refine va_get (D := (dC, dI)) (ci := 0) (v := .ref (h 1)) (C := RK) (T := TK) (N := 3) hx hb hts i_K hown hK hP 0 rfl rfl 0 (by decide) (hts _ m_27) (fun _ h9 => h9) rfl d_K_samplePart_118 ?_
          refine lv_iload_n hx hb d_K_samplePart_121 rfl (lv_at hl 0 rfl) ?_
          refine lv_iconst (v := 1) hx hb d_K_samplePart_122 (by decide) ?_
          refine lv_isub hx hb d_K_samplePart_123 ?_
          obtain ⟨h6, hw⟩ := hw
          refine va_lald hx hb hK hP 1 0 rfl rfl h6 d_K_samplePart_124 ?_
          refine lv_aload_n hx hb d_K_samplePart_125 rfl (lv_at hl 1 rfl) ?_
          refine va_get (D := (dC, dI)) (ci := 0) (v := .ref (h 2)) (C := RK) (T := TK) (N := 3) hx hb hts i_K hown hK hP 0 rfl rfl 1 (by decide) (hts _ m_28) (fun _ h9 => h9) rfl d_K_samplePart_126 ?_
          refine lv_iload_n hx hb d_K_samplePart_129 rfl (lv_at hl 0 rfl) ?_
          obtain ⟨h7, hw⟩ := hw
          refine va_lald hx hb hK hP 2 1 rfl rfl h7 d_K_samplePart_130 ?_
          refine lv_lmul hx hb d_K_samplePart_131 ?_
          refine lv_aload_n hx hb d_K_samplePart_132 rfl (lv_at hl 1 rfl) ?_
          refine va_get (D := (dC, dI)) (ci := 0) (v := .ref (h 1)) (C := RK) (T := TK) (N := 3) hx hb hts i_K hown hK hP 0 rfl rfl 0 (by decide) (hts _ m_27) (fun _ h9 => h9) rfl d_K_samplePart_133 ?_
          refine lv_iload_n hx hb d_K_samplePart_136 rfl (lv_at hl 0 rfl) ?_
          refine va_lald hx hb hK hP 1 0 rfl rfl h7 d_K_samplePart_137 ?_
          refine lv_aload_n hx hb d_K_samplePart_138 rfl (lv_at hl 1 rfl) ?_
          refine va_get (D := (dC, dI)) (ci := 0) (v := .ref (h 2)) (C := RK) (T := TK) (N := 3) hx hb hts i_K hown hK hP 0 rfl rfl 1 (by decide) (hts _ m_28) (fun _ h9 => h9) rfl d_K_samplePart_139 ?_
          refine lv_iload_n hx hb d_K_samplePart_142 rfl (lv_at hl 0 rfl) ?_
          refine lv_iconst (v := 1) hx hb d_K_samplePart_143 (by decide) ?_
          refine lv_isub hx hb d_K_samplePart_144 ?_
          refine va_lald hx hb hK hP 2 1 rfl rfl h6 d_K_samplePart_145 ?_
          refine lv_lmul hx hb d_K_samplePart_146 ?_
          refine lv_ladd hx hb d_K_samplePart_147 ?_
          refine lv_topl (fun y8 ey8 => ?_)
          have hw := hw y8 ey8
          refine lv_lstore (lv' := [(4, .long y8), (3, .int y3), (0, .ref (h 0)), (1, .int p0), (2, .int p1)]) hx hb d_K_samplePart_148 hl (by decide) rfl (fun ls hl => ?_)
          refine lv_lload hx hb d_K_samplePart_150 (lv_at hl 0 rfl) ?_
          refine lv_ldc2 (v := 2) hx hb hown (hts _ m_89) d_K_samplePart_152 ?_
          refine lv_aload_n hx hb d_K_samplePart_155 rfl (lv_at hl 2 rfl) ?_
          refine va_get (D := (dC, dI)) (ci := 0) (v := .ref (h 2)) (C := RK) (T := TK) (N := 3) hx hb hts i_K hown hK hP 0 rfl rfl 1 (by decide) (hts _ m_28) (fun _ h9 => h9) rfl d_K_samplePart_156 ?_
          refine lv_iload_n hx hb d_K_samplePart_159 rfl (lv_at hl 1 rfl) ?_
          refine lv_iconst (v := 1) hx hb d_K_samplePart_160 (by decide) ?_
          refine lv_isub hx hb d_K_samplePart_161 ?_
          refine va_lald hx hb hK hP 2 1 rfl rfl h6 d_K_samplePart_162 ?_
          refine lv_lmul hx hb d_K_samplePart_163 ?_
          refine lv_aload_n hx hb d_K_samplePart_164 rfl (lv_at hl 2 rfl) ?_
          refine va_get (D := (dC, dI)) (ci := 0) (v := .ref (h 2)) (C := RK) (T := TK) (N := 3) hx hb hts i_K hown hK hP 0 rfl rfl 1 (by decide) (hts _ m_28) (fun _ h9 => h9) rfl d_K_samplePart_165 ?_
          refine lv_iload_n hx hb d_K_samplePart_168 rfl (lv_at hl 1 rfl) ?_
          refine va_lald hx hb hK hP 2 1 rfl rfl h7 d_K_samplePart_169 ?_
          refine lv_lmul hx hb d_K_samplePart_170 ?_
          refine lv_iload_n hx hb d_K_samplePart_171 rfl (lv_at hl 4 rfl) ?_
          refine vp_callSl (va_Run.run (va_runS (As := [.long y8, .long ((2 * ((KS.dn st) (y3 - 1).toNatClampNeg)) * ((KS.dn st) y3.toNatClampNeg)), .int p1]) (rest := []) ⟨hx, hb, hml, hown, hts⟩ (t_K_reduced l y8 ((2 * ((KS.dn st) (y3 - 1).toNatClampNeg)) * ((KS.dn st) y3.toNatClampNeg)) p1 hw) (va_cwS 3 hts (gS m_77 m_78 m_2 (cw_call m_79)) rfl rfl rfl (by decide +kernel) ⟨Nat.le_of_ble_eq_true rfl, Nat.le_of_ble_eq_true rfl⟩) ⟨pSt_bl, fun U hU hW => ⟨rfl, trivial⟩⟩ rfl rfl hl.1 rfl (lv_room (Nat.le_of_ble_eq_true rfl)) d_K_samplePart_172 ⟨Nat.le_of_ble_eq_true rfl, Nat.le_of_ble_eq_true rfl⟩)) (fun r9 hw => ?_)
          exact W.lret (v := r9) hx hb hr (fun t ht hW => ⟨r9, rfl, hw, ht⟩) (fun _ h => by cases h) d_K_samplePart_175
        · skip
          have hw := hw.2 c5
          refine lv_aload_n hx hb d_K_samplePart_100 rfl (lv_at hl 1 rfl) ?_
          refine va_get (D := (dC, dI)) (ci := 0) (v := .ref (h 1)) (C := RK) (T := TK) (N := 3) hx hb hts i_K hown hK hP 0 rfl rfl 0 (by decide) (hts _ m_27) (fun _ h9 => h9) rfl d_K_samplePart_101 ?_
          refine lv_iload_n hx hb d_K_samplePart_104 rfl (lv_at hl 0 rfl) ?_
          obtain ⟨h10, hw⟩ := hw
          refine va_lald hx hb hK hP 1 0 rfl rfl h10 d_K_samplePart_105 ?_
          refine lv_aload_n hx hb d_K_samplePart_106 rfl (lv_at hl 1 rfl) ?_
          refine va_get (D := (dC, dI)) (ci := 0) (v := .ref (h 2)) (C := RK) (T := TK) (N := 3) hx hb hts i_K hown hK hP 0 rfl rfl 1 (by decide) (hts _ m_28) (fun _ h9 => h9) rfl d_K_samplePart_107 ?_
          refine lv_iload_n hx hb d_K_samplePart_110 rfl (lv_at hl 0 rfl) ?_
          refine va_lald hx hb hK hP 2 1 rfl rfl h10 d_K_samplePart_111 ?_
          refine lv_iload_n hx hb d_K_samplePart_112 rfl (lv_at hl 3 rfl) ?_
          refine vp_callSl (va_Run.run (va_runS (As := [.long ((KS.up st) y3.toNatClampNeg), .long ((KS.dn st) y3.toNatClampNeg), .int p1]) (rest := []) ⟨hx, hb, hml, hown, hts⟩ (t_K_reduced l ((KS.up st) y3.toNatClampNeg) ((KS.dn st) y3.toNatClampNeg) p1 hw) (va_cwS 3 hts (gS m_77 m_78 m_2 (cw_call m_79)) rfl rfl rfl (by decide +kernel) ⟨Nat.le_of_ble_eq_true rfl, Nat.le_of_ble_eq_true rfl⟩) ⟨pSt_bl, fun U hU hW => ⟨rfl, trivial⟩⟩ rfl rfl hl.1 rfl (lv_room (Nat.le_of_ble_eq_true rfl)) d_K_samplePart_113 ⟨Nat.le_of_ble_eq_true rfl, Nat.le_of_ble_eq_true rfl⟩)) (fun r11 hw => ?_)
          exact W.lret (v := r11) hx hb hr (fun t ht hW => ⟨r11, rfl, hw, ht⟩) (fun _ h => by cases h) d_K_samplePart_116
      · skip
        have hw := hw.2 c4
        refine lv_aload_n hx hb d_K_samplePart_54 rfl (lv_at hl 1 rfl) ?_
        refine va_get (D := (dC, dI)) (ci := 0) (v := .ref (h 1)) (C := RK) (T := TK) (N := 3) hx hb hts i_K hown hK hP 0 rfl rfl 0 (by decide) (hts _ m_27) (fun _ h9 => h9) rfl d_K_samplePart_55 ?_
        refine lv_aload_n hx hb d_K_samplePart_58 rfl (lv_at hl 1 rfl) ?_
        refine va_get (D := (dC, dI)) (ci := 0) (v := .int (KS.cnt st)) (C := RK) (T := TK) (N := 3) hx hb hts i_K hown hK hP 0 rfl rfl 2 (by decide) (hts _ m_29) (fun _ h9 => h9) rfl d_K_samplePart_59 ?_
        refine lv_iconst (v := 1) hx hb d_K_samplePart_62 (by decide) ?_
        refine lv_isub hx hb d_K_samplePart_63 ?_
        obtain ⟨h12, hw⟩ := hw
        refine va_lald hx hb hK hP 1 0 rfl rfl h12 d_K_samplePart_64 ?_
        refine lv_aload_n hx hb d_K_samplePart_65 rfl (lv_at hl 1 rfl) ?_
        refine va_get (D := (dC, dI)) (ci := 0) (v := .ref (h 2)) (C := RK) (T := TK) (N := 3) hx hb hts i_K hown hK hP 0 rfl rfl 1 (by decide) (hts _ m_28) (fun _ h9 => h9) rfl d_K_samplePart_66 ?_
        refine lv_aload_n hx hb d_K_samplePart_69 rfl (lv_at hl 1 rfl) ?_
        refine va_get (D := (dC, dI)) (ci := 0) (v := .int (KS.cnt st)) (C := RK) (T := TK) (N := 3) hx hb hts i_K hown hK hP 0 rfl rfl 2 (by decide) (hts _ m_29) (fun _ h9 => h9) rfl d_K_samplePart_70 ?_
        refine lv_iconst (v := 1) hx hb d_K_samplePart_73 (by decide) ?_
        refine lv_isub hx hb d_K_samplePart_74 ?_
        refine va_lald hx hb hK hP 2 1 rfl rfl h12 d_K_samplePart_75 ?_
        refine lv_ladd hx hb d_K_samplePart_76 ?_
        refine lv_aload_n hx hb d_K_samplePart_77 rfl (lv_at hl 1 rfl) ?_
        refine va_get (D := (dC, dI)) (ci := 0) (v := .ref (h 2)) (C := RK) (T := TK) (N := 3) hx hb hts i_K hown hK hP 0 rfl rfl 1 (by decide) (hts _ m_28) (fun _ h9 => h9) rfl d_K_samplePart_78 ?_
        refine lv_aload_n hx hb d_K_samplePart_81 rfl (lv_at hl 1 rfl) ?_
        refine va_get (D := (dC, dI)) (ci := 0) (v := .int (KS.cnt st)) (C := RK) (T := TK) (N := 3) hx hb hts i_K hown hK hP 0 rfl rfl 2 (by decide) (hts _ m_29) (fun _ h9 => h9) rfl d_K_samplePart_82 ?_
        refine lv_iconst (v := 1) hx hb d_K_samplePart_85 (by decide) ?_
        refine lv_isub hx hb d_K_samplePart_86 ?_
        refine va_lald hx hb hK hP 2 1 rfl rfl h12 d_K_samplePart_87 ?_
        refine lv_iload_n hx hb d_K_samplePart_88 rfl (lv_at hl 3 rfl) ?_
        refine vp_callSl (va_Run.run (va_runS (As := [.long (((KS.up st) ((KS.cnt st) - 1).toNatClampNeg) + ((KS.dn st) ((KS.cnt st) - 1).toNatClampNeg)), .long ((KS.dn st) ((KS.cnt st) - 1).toNatClampNeg), .int p1]) (rest := []) ⟨hx, hb, hml, hown, hts⟩ (t_K_reduced l (((KS.up st) ((KS.cnt st) - 1).toNatClampNeg) + ((KS.dn st) ((KS.cnt st) - 1).toNatClampNeg)) ((KS.dn st) ((KS.cnt st) - 1).toNatClampNeg) p1 hw) (va_cwS 3 hts (gS m_77 m_78 m_2 (cw_call m_79)) rfl rfl rfl (by decide +kernel) ⟨Nat.le_of_ble_eq_true rfl, Nat.le_of_ble_eq_true rfl⟩) ⟨pSt_bl, fun U hU hW => ⟨rfl, trivial⟩⟩ rfl rfl hl.1 rfl (lv_room (Nat.le_of_ble_eq_true rfl)) d_K_samplePart_89 ⟨Nat.le_of_ble_eq_true rfl, Nat.le_of_ble_eq_true rfl⟩)) (fun r13 hw => ?_)
        exact W.lret (v := r13) hx hb hr (fun t ht hW => ⟨r13, rfl, hw, ht⟩) (fun _ h => by cases h) d_K_samplePart_92
    · skip
      have hw := hw.2 c2
      refine lv_aload_n hx hb d_K_samplePart_18 rfl (lv_at hl 0 rfl) ?_
      refine va_get (D := (dC, dI)) (ci := 0) (v := .ref (h 1)) (C := RK) (T := TK) (N := 3) hx hb hts i_K hown hK hP 0 rfl rfl 0 (by decide) (hts _ m_27) (fun _ h9 => h9) rfl d_K_samplePart_19 ?_
      refine lv_iconst (v := 0) hx hb d_K_samplePart_22 (by decide) ?_
      refine va_lald hx hb hK hP 1 0 rfl rfl (by unfold vp_in; decide) d_K_samplePart_23 ?_
      refine lv_aload_n hx hb d_K_samplePart_24 rfl (lv_at hl 0 rfl) ?_
      refine va_get (D := (dC, dI)) (ci := 0) (v := .ref (h 2)) (C := RK) (T := TK) (N := 3) hx hb hts i_K hown hK hP 0 rfl rfl 1 (by decide) (hts _ m_28) (fun _ h9 => h9) rfl d_K_samplePart_25 ?_
      refine lv_iconst (v := 0) hx hb d_K_samplePart_28 (by decide) ?_
      refine va_lald hx hb hK hP 2 1 rfl rfl (by unfold vp_in; decide) d_K_samplePart_29 ?_
      refine lv_lsub hx hb d_K_samplePart_30 ?_
      refine lv_aload_n hx hb d_K_samplePart_31 rfl (lv_at hl 0 rfl) ?_
      refine va_get (D := (dC, dI)) (ci := 0) (v := .ref (h 2)) (C := RK) (T := TK) (N := 3) hx hb hts i_K hown hK hP 0 rfl rfl 1 (by decide) (hts _ m_28) (fun _ h9 => h9) rfl d_K_samplePart_32 ?_
      refine lv_iconst (v := 0) hx hb d_K_samplePart_35 (by decide) ?_
      refine va_lald hx hb hK hP 2 1 rfl rfl (by unfold vp_in; decide) d_K_samplePart_36 ?_
      refine lv_iload_n hx hb d_K_samplePart_37 rfl (lv_at hl 2 rfl) ?_
      refine vp_callSl (va_Run.run (va_runS (As := [.long (((KS.up st) (0 : Int32).toNatClampNeg) - ((KS.dn st) (0 : Int32).toNatClampNeg)), .long ((KS.dn st) (0 : Int32).toNatClampNeg), .int p1]) (rest := []) ⟨hx, hb, hml, hown, hts⟩ (t_K_reduced l (((KS.up st) (0 : Int32).toNatClampNeg) - ((KS.dn st) (0 : Int32).toNatClampNeg)) ((KS.dn st) (0 : Int32).toNatClampNeg) p1 hw) (va_cwS 3 hts (gS m_77 m_78 m_2 (cw_call m_79)) rfl rfl rfl (by decide +kernel) ⟨Nat.le_of_ble_eq_true rfl, Nat.le_of_ble_eq_true rfl⟩) ⟨pSt_bl, fun U hU hW => ⟨rfl, trivial⟩⟩ rfl rfl hl.1 rfl (lv_room (Nat.le_of_ble_eq_true rfl)) d_K_samplePart_38 ⟨Nat.le_of_ble_eq_true rfl, Nat.le_of_ble_eq_true rfl⟩)) (fun r14 hw => ?_)
      exact W.lret (v := r14) hx hb hr (fun t ht hW => ⟨r14, rfl, hw, ht⟩) (fun _ h => by cases h) d_K_samplePart_41
  · skip
    have hw := hw.2 c1
    refine lv_lconst (v := 0) hx hb d_K_samplePart_7 (by decide) ?_
    refine lv_lconst (v := 1) hx hb d_K_samplePart_8 (by decide) ?_
    refine lv_iload_n hx hb d_K_samplePart_9 rfl (lv_at hl 2 rfl) ?_
    refine vp_callSl (va_Run.run (va_runS (As := [.long 0, .long 1, .int p1]) (rest := []) ⟨hx, hb, hml, hown, hts⟩ (t_K_reduced l (0 : Int64) (1 : Int64) p1 hw) (va_cwS 3 hts (gS m_77 m_78 m_2 (cw_call m_79)) rfl rfl rfl (by decide +kernel) ⟨Nat.le_of_ble_eq_true rfl, Nat.le_of_ble_eq_true rfl⟩) ⟨pSt_bl, fun U hU hW => ⟨rfl, trivial⟩⟩ rfl rfl hl.1 rfl (lv_room (Nat.le_of_ble_eq_true rfl)) d_K_samplePart_10 ⟨Nat.le_of_ble_eq_true rfl, Nat.le_of_ble_eq_true rfl⟩)) (fun r15 hw => ?_)
    exact W.lret (v := r15) hx hb hr (fun t ht hW => ⟨r15, rfl, hw, ht⟩) (fun _ h => by cases h) d_K_samplePart_13
end
