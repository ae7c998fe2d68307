section
-- ===== PART A: goes FIRST, ahead of the names: the tables' words, and 'selects' of the private methods out of them =====
/-- a private method of a class that the tables say can be made, by its rows of tables_1 -/
def lw_okq (q : MethodName × Nat) : Prop := (q.1.cls ≠ "java/lang/invoke/MethodHandle" ∧ q.1.cls ≠ "java/lang/invoke/VarHandle") ∧ Cond.instantiable q.1.cls q.2 ∈ tables_1 ∧ Cond.privateMethod q.1 ∈ tables_1 ∧ Cond.instanceMethod q.1 ∈ tables_1
theorem lw_p0 : lw_okq (⟨"CellProjection", "rebuild", "()V"⟩, 10) := ⟨⟨by decide +kernel, by decide +kernel⟩, List.mem_of_getElem? (i := 14) (by decide +kernel), List.mem_of_getElem? (i := 43) (by decide +kernel), List.mem_of_getElem? (i := 44) (by decide +kernel)⟩
theorem lw_p1 : lw_okq (⟨"CellProjection", "gatherCuts", "()V"⟩, 10) := ⟨⟨by decide +kernel, by decide +kernel⟩, List.mem_of_getElem? (i := 14) (by decide +kernel), List.mem_of_getElem? (i := 47) (by decide +kernel), List.mem_of_getElem? (i := 48) (by decide +kernel)⟩
theorem lw_p2 : lw_okq (⟨"CellProjection", "addCut", "(II)V"⟩, 10) := ⟨⟨by decide +kernel, by decide +kernel⟩, List.mem_of_getElem? (i := 14) (by decide +kernel), List.mem_of_getElem? (i := 51) (by decide +kernel), List.mem_of_getElem? (i := 52) (by decide +kernel)⟩
theorem lw_p3 : lw_okq (⟨"CellProjection", "stripCount", "()I"⟩, 10) := ⟨⟨by decide +kernel, by decide +kernel⟩, List.mem_of_getElem? (i := 14) (by decide +kernel), List.mem_of_getElem? (i := 66) (by decide +kernel), List.mem_of_getElem? (i := 67) (by decide +kernel)⟩
theorem lw_p4 : lw_okq (⟨"CellProjection", "layStrip", "(I)V"⟩, 10) := ⟨⟨by decide +kernel, by decide +kernel⟩, List.mem_of_getElem? (i := 14) (by decide +kernel), List.mem_of_getElem? (i := 70) (by decide +kernel), List.mem_of_getElem? (i := 71) (by decide +kernel)⟩
theorem lw_p5 : lw_okq (⟨"CellProjection", "measureHeights", "(JJ)V"⟩, 10) := ⟨⟨by decide +kernel, by decide +kernel⟩, List.mem_of_getElem? (i := 14) (by decide +kernel), List.mem_of_getElem? (i := 91) (by decide +kernel), List.mem_of_getElem? (i := 92) (by decide +kernel)⟩
theorem lw_p6 : lw_okq (⟨"CellProjection", "heightAbove", "(IJJ)J"⟩, 10) := ⟨⟨by decide +kernel, by decide +kernel⟩, List.mem_of_getElem? (i := 14) (by decide +kernel), List.mem_of_getElem? (i := 95) (by decide +kernel), List.mem_of_getElem? (i := 96) (by decide +kernel)⟩
theorem lw_p7 : lw_okq (⟨"CellProjection", "heightBelow", "(IJ)J"⟩, 10) := ⟨⟨by decide +kernel, by decide +kernel⟩, List.mem_of_getElem? (i := 14) (by decide +kernel), List.mem_of_getElem? (i := 99) (by decide +kernel), List.mem_of_getElem? (i := 100) (by decide +kernel)⟩
theorem lw_p8 : lw_okq (⟨"CellProjection", "cellsOf", "(I)I"⟩, 10) := ⟨⟨by decide +kernel, by decide +kernel⟩, List.mem_of_getElem? (i := 14) (by decide +kernel), List.mem_of_getElem? (i := 150) (by decide +kernel), List.mem_of_getElem? (i := 151) (by decide +kernel)⟩
theorem lw_p9 : lw_okq (⟨"CellProjection", "hasSigns", "(III)Z"⟩, 10) := ⟨⟨by decide +kernel, by decide +kernel⟩, List.mem_of_getElem? (i := 14) (by decide +kernel), List.mem_of_getElem? (i := 154) (by decide +kernel), List.mem_of_getElem? (i := 155) (by decide +kernel)⟩
theorem lw_p10 : lw_okq (⟨"CellProjection", "signIn", "(III)I"⟩, 10) := ⟨⟨by decide +kernel, by decide +kernel⟩, List.mem_of_getElem? (i := 14) (by decide +kernel), List.mem_of_getElem? (i := 158) (by decide +kernel), List.mem_of_getElem? (i := 159) (by decide +kernel)⟩
theorem lw_p11 : lw_okq (⟨"java/lang/Throwable", "fillInStackTrace", "(I)Ljava/lang/Throwable;"⟩, 6) := ⟨⟨by decide +kernel, by decide +kernel⟩, List.mem_of_getElem? (i := 223) (by decide +kernel), List.mem_of_getElem? (i := 221) (by decide +kernel), List.mem_of_getElem? (i := 222) (by decide +kernel)⟩
theorem lw_p12 : lw_okq (⟨"CellProjection", "isLine", "(I)Z"⟩, 10) := ⟨⟨by decide +kernel, by decide +kernel⟩, List.mem_of_getElem? (i := 14) (by decide +kernel), List.mem_of_getElem? (i := 278) (by decide +kernel), List.mem_of_getElem? (i := 279) (by decide +kernel)⟩
theorem lw_p13 : lw_okq (⟨"CellProjection", "isCell", "(I)Z"⟩, 10) := ⟨⟨by decide +kernel, by decide +kernel⟩, List.mem_of_getElem? (i := 14) (by decide +kernel), List.mem_of_getElem? (i := 325) (by decide +kernel), List.mem_of_getElem? (i := 326) (by decide +kernel)⟩
theorem lw_p14 : lw_okq (⟨"CellProjection", "stripOf", "(I)I"⟩, 10) := ⟨⟨by decide +kernel, by decide +kernel⟩, List.mem_of_getElem? (i := 14) (by decide +kernel), List.mem_of_getElem? (i := 330) (by decide +kernel), List.mem_of_getElem? (i := 331) (by decide +kernel)⟩
theorem lw_p15 : lw_okq (⟨"CellProjection", "reaches", "(IIII)Z"⟩, 10) := ⟨⟨by decide +kernel, by decide +kernel⟩, List.mem_of_getElem? (i := 14) (by decide +kernel), List.mem_of_getElem? (i := 369) (by decide +kernel), List.mem_of_getElem? (i := 370) (by decide +kernel)⟩
def lw_privs_1 : List (MethodName × Nat) := [(⟨"CellProjection", "rebuild", "()V"⟩, 10), (⟨"CellProjection", "gatherCuts", "()V"⟩, 10), (⟨"CellProjection", "addCut", "(II)V"⟩, 10), (⟨"CellProjection", "stripCount", "()I"⟩, 10), (⟨"CellProjection", "layStrip", "(I)V"⟩, 10), (⟨"CellProjection", "measureHeights", "(JJ)V"⟩, 10), (⟨"CellProjection", "heightAbove", "(IJJ)J"⟩, 10), (⟨"CellProjection", "heightBelow", "(IJ)J"⟩, 10), (⟨"CellProjection", "cellsOf", "(I)I"⟩, 10), (⟨"CellProjection", "hasSigns", "(III)Z"⟩, 10), (⟨"CellProjection", "signIn", "(III)I"⟩, 10), (⟨"java/lang/Throwable", "fillInStackTrace", "(I)Ljava/lang/Throwable;"⟩, 6), (⟨"CellProjection", "isLine", "(I)Z"⟩, 10), (⟨"CellProjection", "isCell", "(I)Z"⟩, 10), (⟨"CellProjection", "stripOf", "(I)I"⟩, 10), (⟨"CellProjection", "reaches", "(IIII)Z"⟩, 10)]
theorem lw_r1 : ∀ q ∈ lw_privs_1, lw_okq q := List.forall_mem_cons.mpr ⟨lw_p0, List.forall_mem_cons.mpr ⟨lw_p1, List.forall_mem_cons.mpr ⟨lw_p2, List.forall_mem_cons.mpr ⟨lw_p3, List.forall_mem_cons.mpr ⟨lw_p4, List.forall_mem_cons.mpr ⟨lw_p5, List.forall_mem_cons.mpr ⟨lw_p6, List.forall_mem_cons.mpr ⟨lw_p7, List.forall_mem_cons.mpr ⟨lw_p8, List.forall_mem_cons.mpr ⟨lw_p9, List.forall_mem_cons.mpr ⟨lw_p10, List.forall_mem_cons.mpr ⟨lw_p11, List.forall_mem_cons.mpr ⟨lw_p12, List.forall_mem_cons.mpr ⟨lw_p13, List.forall_mem_cons.mpr ⟨lw_p14, List.forall_mem_cons.mpr ⟨lw_p15, fun _ h => absurd h List.not_mem_nil⟩⟩⟩⟩⟩⟩⟩⟩⟩⟩⟩⟩⟩⟩⟩⟩
theorem lw_p16 : lw_okq (⟨"CellProjectionModel", "look", "()V"⟩, 15) := ⟨⟨by decide +kernel, by decide +kernel⟩, List.mem_of_getElem? (i := 373) (by decide +kernel), List.mem_of_getElem? (i := 438) (by decide +kernel), List.mem_of_getElem? (i := 439) (by decide +kernel)⟩
theorem lw_p17 : lw_okq (⟨"CellProjectionModel", "lowest", "(JJ)V"⟩, 15) := ⟨⟨by decide +kernel, by decide +kernel⟩, List.mem_of_getElem? (i := 373) (by decide +kernel), List.mem_of_getElem? (i := 442) (by decide +kernel), List.mem_of_getElem? (i := 443) (by decide +kernel)⟩
theorem lw_p18 : lw_okq (⟨"CellProjectionModel", "keepCut", "()V"⟩, 15) := ⟨⟨by decide +kernel, by decide +kernel⟩, List.mem_of_getElem? (i := 373) (by decide +kernel), List.mem_of_getElem? (i := 446) (by decide +kernel), List.mem_of_getElem? (i := 447) (by decide +kernel)⟩
theorem lw_p19 : lw_okq (⟨"CellProjectionModel", "curvesOf", "(I)V"⟩, 15) := ⟨⟨by decide +kernel, by decide +kernel⟩, List.mem_of_getElem? (i := 373) (by decide +kernel), List.mem_of_getElem? (i := 470) (by decide +kernel), List.mem_of_getElem? (i := 471) (by decide +kernel)⟩
theorem lw_p20 : lw_okq (⟨"CellProjectionModel", "sampleX", "(I)V"⟩, 15) := ⟨⟨by decide +kernel, by decide +kernel⟩, List.mem_of_getElem? (i := 373) (by decide +kernel), List.mem_of_getElem? (i := 474) (by decide +kernel), List.mem_of_getElem? (i := 475) (by decide +kernel)⟩
theorem lw_p21 : lw_okq (⟨"CellProjectionModel", "findCurves", "()V"⟩, 15) := ⟨⟨by decide +kernel, by decide +kernel⟩, List.mem_of_getElem? (i := 373) (by decide +kernel), List.mem_of_getElem? (i := 479) (by decide +kernel), List.mem_of_getElem? (i := 480) (by decide +kernel)⟩
theorem lw_p22 : lw_okq (⟨"CellProjectionModel", "lineAt", "(I)V"⟩, 15) := ⟨⟨by decide +kernel, by decide +kernel⟩, List.mem_of_getElem? (i := 373) (by decide +kernel), List.mem_of_getElem? (i := 483) (by decide +kernel), List.mem_of_getElem? (i := 484) (by decide +kernel)⟩
theorem lw_p23 : lw_okq (⟨"CellProjectionModel", "below", "()I"⟩, 15) := ⟨⟨by decide +kernel, by decide +kernel⟩, List.mem_of_getElem? (i := 373) (by decide +kernel), List.mem_of_getElem? (i := 487) (by decide +kernel), List.mem_of_getElem? (i := 488) (by decide +kernel)⟩
theorem lw_p24 : lw_okq (⟨"CellProjectionModel", "isCell", "(I)Z"⟩, 15) := ⟨⟨by decide +kernel, by decide +kernel⟩, List.mem_of_getElem? (i := 373) (by decide +kernel), List.mem_of_getElem? (i := 499) (by decide +kernel), List.mem_of_getElem? (i := 500) (by decide +kernel)⟩
theorem lw_p25 : lw_okq (⟨"CellProjectionModel", "sampleY", "()V"⟩, 15) := ⟨⟨by decide +kernel, by decide +kernel⟩, List.mem_of_getElem? (i := 373) (by decide +kernel), List.mem_of_getElem? (i := 507) (by decide +kernel), List.mem_of_getElem? (i := 508) (by decide +kernel)⟩
theorem lw_p26 : lw_okq (⟨"CellProjectionModel", "told", "(I)J"⟩, 15) := ⟨⟨by decide +kernel, by decide +kernel⟩, List.mem_of_getElem? (i := 373) (by decide +kernel), List.mem_of_getElem? (i := 511) (by decide +kernel), List.mem_of_getElem? (i := 512) (by decide +kernel)⟩
theorem lw_p27 : lw_okq (⟨"CellProjectionModel", "signAt", "(I)I"⟩, 15) := ⟨⟨by decide +kernel, by decide +kernel⟩, List.mem_of_getElem? (i := 373) (by decide +kernel), List.mem_of_getElem? (i := 519) (by decide +kernel), List.mem_of_getElem? (i := 520) (by decide +kernel)⟩
theorem lw_p28 : lw_okq (⟨"CellProjectionModel", "isSo", "(I)Z"⟩, 15) := ⟨⟨by decide +kernel, by decide +kernel⟩, List.mem_of_getElem? (i := 373) (by decide +kernel), List.mem_of_getElem? (i := 533) (by decide +kernel), List.mem_of_getElem? (i := 534) (by decide +kernel)⟩
theorem lw_p29 : lw_okq (⟨"CellProjectionModel", "ends", "(III)I"⟩, 15) := ⟨⟨by decide +kernel, by decide +kernel⟩, List.mem_of_getElem? (i := 373) (by decide +kernel), List.mem_of_getElem? (i := 542) (by decide +kernel), List.mem_of_getElem? (i := 543) (by decide +kernel)⟩
theorem lw_p30 : lw_okq (⟨"CellProjectionModel", "lineOf", "(II)I"⟩, 15) := ⟨⟨by decide +kernel, by decide +kernel⟩, List.mem_of_getElem? (i := 373) (by decide +kernel), List.mem_of_getElem? (i := 546) (by decide +kernel), List.mem_of_getElem? (i := 547) (by decide +kernel)⟩
def lw_privs_2 : List (MethodName × Nat) := [(⟨"CellProjectionModel", "look", "()V"⟩, 15), (⟨"CellProjectionModel", "lowest", "(JJ)V"⟩, 15), (⟨"CellProjectionModel", "keepCut", "()V"⟩, 15), (⟨"CellProjectionModel", "curvesOf", "(I)V"⟩, 15), (⟨"CellProjectionModel", "sampleX", "(I)V"⟩, 15), (⟨"CellProjectionModel", "findCurves", "()V"⟩, 15), (⟨"CellProjectionModel", "lineAt", "(I)V"⟩, 15), (⟨"CellProjectionModel", "below", "()I"⟩, 15), (⟨"CellProjectionModel", "isCell", "(I)Z"⟩, 15), (⟨"CellProjectionModel", "sampleY", "()V"⟩, 15), (⟨"CellProjectionModel", "told", "(I)J"⟩, 15), (⟨"CellProjectionModel", "signAt", "(I)I"⟩, 15), (⟨"CellProjectionModel", "isSo", "(I)Z"⟩, 15), (⟨"CellProjectionModel", "ends", "(III)I"⟩, 15), (⟨"CellProjectionModel", "lineOf", "(II)I"⟩, 15)]
theorem lw_r2 : ∀ q ∈ lw_privs_2, lw_okq q := List.forall_mem_cons.mpr ⟨lw_p16, List.forall_mem_cons.mpr ⟨lw_p17, List.forall_mem_cons.mpr ⟨lw_p18, List.forall_mem_cons.mpr ⟨lw_p19, List.forall_mem_cons.mpr ⟨lw_p20, List.forall_mem_cons.mpr ⟨lw_p21, List.forall_mem_cons.mpr ⟨lw_p22, List.forall_mem_cons.mpr ⟨lw_p23, List.forall_mem_cons.mpr ⟨lw_p24, List.forall_mem_cons.mpr ⟨lw_p25, List.forall_mem_cons.mpr ⟨lw_p26, List.forall_mem_cons.mpr ⟨lw_p27, List.forall_mem_cons.mpr ⟨lw_p28, List.forall_mem_cons.mpr ⟨lw_p29, List.forall_mem_cons.mpr ⟨lw_p30, fun _ h => absurd h List.not_mem_nil⟩⟩⟩⟩⟩⟩⟩⟩⟩⟩⟩⟩⟩⟩⟩
def lw_privs : List (MethodName × Nat) := lw_privs_1 ++ (lw_privs_2)
def lw_tbl : List Cond := k2_sels lw_privs ++ tables_1
theorem lw_privs_ok : ∀ q ∈ lw_privs, lw_okq q := by
  show ∀ q ∈ lw_privs_1 ++ (lw_privs_2), lw_okq q
  exact List.forall_mem_append.mpr ⟨lw_r1, lw_r2⟩
-- ===== end of PART A; then your names; then what follows =====
end
section
/-! ===== BEGIN words of one list among another's, by their places ===== -/
theorem goodIn_r {big : List Cond} (ws : List Cond) (ps : List Nat) (hp : ws = ps.filterMap (fun i => big[i]?)) (h : ws.all goodWord = true) : GoodIn big ws := by
  intro w hw
  have h1 := List.all_eq_true.mp h w hw
  rw [hp] at hw
  obtain ⟨i, -, hi⟩ := List.mem_filterMap.mp hw
  have hm : w ∈ big := by first | exact List.mem_of_getElem? hi | exact List.getElem?_mem hi
  exact ⟨hm, good_of_word h1⟩
theorem goodIn_app {big a b : List Cond} (ha : GoodIn big a) (hb : GoodIn big b) : GoodIn big (a ++ b) := fun w h => (List.mem_append.mp h).elim (ha w) (hb w)
theorem goodIn_ca {big a b : List Cond} {c : Cond} (ha : GoodIn big (c :: a)) (hb : GoodIn big b) : GoodIn big (c :: (a ++ b)) := fun w h => (List.mem_cons.mp h).elim (fun e => ha w (List.mem_cons.mpr (Or.inl e))) (fun h => (List.mem_append.mp h).elim (fun h => ha w (List.mem_cons.mpr (Or.inr h))) (hb w))
theorem goodIn_sub {big ws : List Cond} (hm : ∀ w ∈ ws, w ∈ big) (h : ws.all goodWord = true) : GoodIn big ws := fun w hw => ⟨hm w hw, good_of_word (List.all_eq_true.mp h w hw)⟩
/-! ===== END ===== -/

def va_AOA (t : FieldType) (U : State) : Prop := (Cond.arrayOver (.array t)).before #[] U = true
theorem va_AOA.use {t : FieldType} {A : Array Value} {U : State} (h : va_AOA t U) : (Cond.arrayOver (.array t)).before A U = true := h
/-! ===== BEGIN new T[n][m]: the outer array a place, the inner ones among the pooled ===== -/
/-- f, but v at every address of l -/
def vr_up {α : Type} (f : Nat → α) (l : List Nat) (v : α) : Nat → α := fun a => if a ∈ l then v else f a
theorem vr_up_in {α : Type} {f : Nat → α} {l : List Nat} {v : α} {a : Nat} (h : a ∈ l) : vr_up f l v a = v := if_pos h
theorem vr_up_ne {α : Type} {f : Nat → α} {l : List Nat} {v : α} {a : Nat} (h : a ∉ l) : vr_up f l v a = f a := if_neg h
theorem vr_rows {L l : List Nat} {f : Nat → va_E} {e : va_E} (h : ∀ a, a ∈ l → a ∉ L) : va_pl L f ++ l.map (fun a => (a, e)) = va_pl (L ++ l) (vr_up f l e) := by
  unfold va_pl
  rw [List.map_append]
  congr 1
  · apply List.map_congr_left
    intro a ha
    rw [vr_up_ne (fun q => h a q ha)]
  · apply List.map_congr_left
    intro a ha
    rw [vr_up_in ha]
theorem vr_lay {X rows : va_W} {x : Nat × va_E} {pl : va_W} {D : va_G} {cl : List vw_C} {H : Heap} (hP : va_P D cl (((X ++ pl) ++ [x]) ++ rows) H) : va_P D cl ((X ++ [x]) ++ (pl ++ rows)) H := by
  rw [List.append_assoc (X ++ pl)] at hP
  have h := va_P.swap hP
  rw [← List.append_assoc X] at h
  have h2 := va_P.swap h
  rw [List.append_assoc (X ++ [x])] at h2
  exact h2
theorem vr_layD {X rows : va_W} {x : Nat × va_E} {pl : va_W} {A : Nat → Prop} (hD : va_D A (((X ++ pl) ++ [x]) ++ rows)) : va_D A ((X ++ [x]) ++ (pl ++ rows)) := by
  rw [List.append_assoc (X ++ pl)] at hD
  have h := va_D.swap hD
  rw [← List.append_assoc X] at h
  have h2 := va_D.swap h
  rw [List.append_assoc (X ++ [x])] at h2
  exact h2
theorem vr_outer (c : ClassId) (N h0 : Nat) : ∀ i : Nat, Jvm.Free.Multi.outerC c N h0 i = arrV c N (fun j => va_rf (if j < i then some (h0 + 1 + j) else none))
  | 0 => by
    show ({ cls := c, slots := Array.replicate N .null, vm := .none } : Cell) = _
    rw [arrV_new]
    refine congrArg (arrV c N) (funext fun j => ?_)
    simp [va_rf]
  | i + 1 => by
    show (Jvm.Free.Multi.outerC c N h0 i).setSlot i (.ref (h0 + 1 + i)) = _
    rw [vr_outer c N h0 i, arrV_store]
    refine congrArg (arrV c N) (funext fun j => ?_)
    by_cases e : j = i
    · subst e
      simp [updV, va_rf]
    · by_cases h : j < i
      · simp [updV, e, h, Nat.lt_succ_of_lt h]
      · simp [updV, e, h, show ¬ j < i + 1 by omega]
section VGM
variable {p : Program} {l : Launch} {e : Env} {R : Room} {s : State} {m : MethodId} {args : Array Value} {below : List Frame} {meth : Method} {c : Code} {H : Heap} {locs : List Loc} {cells slots : Nat} {Q : State → Prop}
variable {cc : ByteArray} {pc : Nat} {ls : Array Slot} {rest : List Value} {D : va_G} {cl : List vw_C} {A : Nat → Prop} {a : Nat} {tys : List (ClassId × FieldType)} {ws : va_W} {H0 : Heap}
theorem va_mna {X : va_W} {L : List Nat} {f : Nat → va_E} {cc : ByteArray} (hexec : p.tables.exec = Jvm.exec) (hb : c.code = cc) {own : String} {index : Nat} {ty : FieldType} {cy : ClassId} (hown : s.vm.findClass own = some m.cls) (hclink : (Cond.classLink own index ("[" ++ (FieldType.array ty).toString)).before args s = true) (hover : va_AOA ty s) (harr : (Cond.arrayClass ty).before args s = true) (hcy : s.vm.findClass (FieldType.array ty).toString = some cy)
    (hK : va_K D cl tys s) (hP : va_P D cl (X ++ va_pl L f) H) (hD : va_D A (X ++ va_pl L f)) (hS : va_S A H0 H locs) (hA : ∀ q, H0.size ≤ q → A q) {n k : Int32} {N' K' : Nat} {z : vp_A} (hn : ¬ n < 0) (hk : ¬ k < 0) (hN : n.toNatClampNeg = N') (hM : k.toNatClampNeg = K')
    (hb1 : N' * 4 ≤ 536870912) (hb2 : K' * componentBytes ty ≤ 536870912) (hb3 : K' ≤ 536870912) (hdf : fits ty (defaultValue ty) = true) (hdd : (defaultValue ty).isDefault = true) (hcells : cells + (1 + N') ≤ R.cells) (hslots : slots + (N' + N' * K') ≤ R.slots) (hz : ∀ c : ClassId, Jvm.Free.Multi.innerC c K' (defaultValue ty) = vp_cell c z) (hdg : decode cc pc = .ok (.multianewarray index 2, 4))
    (kk : ∀ (q : Nat) (r : Nat → Nat) (cA : ClassId) (H1 : Heap), (∀ i j : Nat, i < N' → j < N' → r i = r j → i = j) → (∀ i : Nat, i < N' → r i ∉ L) → va_K D cl (tys ++ [(cA, .array ty)]) s →
      va_P D cl ((X ++ [(q, .inl (cA, N', .inr (.inr (.inr (.inr (fun i => if i < N' then some (r i) else none))))))]) ++ va_pl (L ++ (List.range N').map r) (vr_up f ((List.range N').map r) (.inl (cy, z)))) H1 → va_D A ((X ++ [(q, .inl (cA, N', .inr (.inr (.inr (.inr (fun i => if i < N' then some (r i) else none))))))]) ++ va_pl (L ++ (List.range N').map r) (vr_up f ((List.range N').map r) (.inl (cy, z)))) → va_S A H0 H1 locs →
      W p l e R s m args below meth c H1 locs (cells + 1 + N') (slots + N' + N' * K') Q (F0 m (pc + 4) ls (.ref q :: rest))) : W p l e R s m args below meth c H locs cells slots Q (F0 m pc ls (.int k :: .int n :: rest)) := by
  subst hN
  subst hM
  intro T hT Xs
  obtain ⟨vm₁, cA, comp, -, fA, fC, hO, -, X', step⟩ := Xs.multianewarray2F hexec hown hclink (va_AOA.use hover) harr (g := F0 m pc ls (.int k :: .int n :: rest)) rfl (by rw [hb]; exact hdg) rfl hn hk hb1 hb2 hb3 hdf hdd hcells hslots
  have ec : some cy = some comp := hcy.symm.trans fC
  cases ec
  generalize hF : Jvm.Free.Multi.fill (T.setVm vm₁) cA cy n.toNatClampNeg k.toNatClampNeg (defaultValue ty) n.toNatClampNeg = F at X' step
  have hTh : (T.setVm vm₁).heap = H := hT
  obtain ⟨f1, f2, -, -⟩ := Jvm.Free.Multi.fill_facts (T.setVm vm₁) cA cy n.toNatClampNeg k.toNatClampNeg (defaultValue ty) n.toNatClampNeg
  rw [hF, hTh] at f1 f2
  have hold : ∀ x : Nat, x < H.size → F.heap[x]? = H[x]? := fun x hx => by
    have := Jvm.Free.Multi.fill_old (T.setVm vm₁) cA cy n.toNatClampNeg k.toNatClampNeg (defaultValue ty) (a := x) (by rw [hTh]; exact hx) n.toNatClampNeg
    rw [hF, hTh] at this
    exact this
  have hrow : ∀ j : Nat, j < n.toNatClampNeg → F.heap[H.size + 1 + j]? = some (vp_cell cy z) := fun j hj => by
    have := Jvm.Free.Multi.fill_inner (T.setVm vm₁) cA cy n.toNatClampNeg k.toNatClampNeg (defaultValue ty) n.toNatClampNeg j hj
    rw [hF, hTh, hz] at this
    exact this
  have hout : Jvm.Free.Multi.outerC cA n.toNatClampNeg H.size n.toNatClampNeg = vp_cell cA (n.toNatClampNeg, .inr (.inr (.inr (.inr (fun i => if i < n.toNatClampNeg then some (H.size + 1 + i) else none))))) := by
    rw [vp_cell_q]
    exact vr_outer cA n.toNatClampNeg H.size n.toNatClampNeg
  rw [hout] at f2
  have hlt : ∀ a, a ∈ L → a < H.size := fun a ha => by
    obtain ⟨k9, hk9⟩ := va_pl_get (X := X) (f := f) ha
    exact (hP k9 _ hk9).lt
  have hnl : ∀ i : Nat, i < n.toNatClampNeg → H.size + 1 + i ∉ L := fun i _ h => by
    have := hlt _ h
    omega
  have hnm : ∀ a, a ∈ (List.range n.toNatClampNeg).map (fun i => H.size + 1 + i) → a ∉ L := fun a ha h => by
    obtain ⟨i, -, rfl⟩ := List.mem_map.mp ha
    have := hlt _ h
    omega
  have hP0 : va_P D cl (X ++ va_pl L f) F.heap := hP.kept (fun k9 x hx => hold x.1 ((hP k9 x hx).lt))
  have hP1 : va_P D cl ((X ++ va_pl L f) ++ [(H.size, .inl (cA, n.toNatClampNeg, .inr (.inr (.inr (.inr (fun i => if i < n.toNatClampNeg then some (H.size + 1 + i) else none))))))]) F.heap := hP0.app (fun k9 x hx => by
    have h0 : k9 < 1 := (List.getElem?_eq_some_iff.mp hx).1
    rw [show k9 = 0 by omega] at hx
    cases hx
    exact f2)
  have hP2 : va_P D cl (((X ++ va_pl L f) ++ [(H.size, .inl (cA, n.toNatClampNeg, .inr (.inr (.inr (.inr (fun i => if i < n.toNatClampNeg then some (H.size + 1 + i) else none))))))]) ++ ((List.range n.toNatClampNeg).map (fun i => H.size + 1 + i)).map (fun a => (a, .inl (cy, z)))) F.heap := hP1.app (fun k9 x hx => by
    obtain ⟨a, ha, rfl⟩ := List.mem_map.mp (List.mem_of_getElem? hx)
    obtain ⟨i, hi, rfl⟩ := List.mem_map.mp ha
    exact hrow i (List.mem_range.mp hi))
  have hD2 : va_D A (((X ++ va_pl L f) ++ [(H.size, .inl (cA, n.toNatClampNeg, .inr (.inr (.inr (.inr (fun i => if i < n.toNatClampNeg then some (H.size + 1 + i) else none))))))]) ++ ((List.range n.toNatClampNeg).map (fun i => H.size + 1 + i)).map (fun a => (a, .inl (cy, z)))) := by
    have hD1 := hD.push (e := .inl (cA, n.toNatClampNeg, .inr (.inr (.inr (.inr (fun i => if i < n.toNatClampNeg then some (H.size + 1 + i) else none)))))) hP rfl (hA _ hS.1)
    generalize hW1 : (X ++ va_pl L f) ++ [(H.size, .inl (cA, n.toNatClampNeg, .inr (.inr (.inr (.inr (fun i => if i < n.toNatClampNeg then some (H.size + 1 + i) else none))))))] = W1 at hD1 hP1 ⊢
    have hle : ∀ (k9 : Nat) (x : Nat × va_E), W1[k9]? = some x → x.1 ≤ H.size := fun k9 x hx => by
      rw [← hW1] at hx
      by_cases hl : k9 < (X ++ va_pl L f).length
      · rw [List.getElem?_append_left hl] at hx
        exact Nat.le_of_lt ((hP k9 x hx).lt)
      · rw [List.getElem?_append_right (by omega)] at hx
        have h0 : k9 - (X ++ va_pl L f).length < 1 := (List.getElem?_eq_some_iff.mp hx).1
        rw [show k9 - (X ++ va_pl L f).length = 0 by omega] at hx
        cases hx
        exact Nat.le_refl _
    have hr : ∀ (k9 : Nat) (x : Nat × va_E), (((List.range n.toNatClampNeg).map (fun i => H.size + 1 + i)).map (fun a => ((a, .inl (cy, z)) : Nat × va_E)))[k9]? = some x → x.1 = H.size + 1 + k9 := fun k9 x hx => by
      rw [List.getElem?_map, List.getElem?_map] at hx
      by_cases h9 : k9 < n.toNatClampNeg
      · rw [List.getElem?_range h9] at hx
        cases hx
        rfl
      · have hn0 : (List.range n.toNatClampNeg)[k9]? = none := List.getElem?_eq_none (by rw [List.length_range]; omega)
        rw [hn0] at hx
        cases hx
    refine ⟨fun i j x y hi hj hxy => ?_, fun k9 x hx => ?_⟩
    · by_cases h1 : i < W1.length <;> by_cases h2 : j < W1.length
      · rw [List.getElem?_append_left h1] at hi
        rw [List.getElem?_append_left h2] at hj
        exact hD1.1 i j x y hi hj hxy
      · rw [List.getElem?_append_left h1] at hi
        rw [List.getElem?_append_right (by omega)] at hj
        have := hle _ _ hi
        have := hr _ _ hj
        omega
      · rw [List.getElem?_append_right (by omega)] at hi
        rw [List.getElem?_append_left h2] at hj
        have := hle _ _ hj
        have := hr _ _ hi
        omega
      · rw [List.getElem?_append_right (by omega)] at hi hj
        have := hr _ _ hi
        have := hr _ _ hj
        omega
    · by_cases h1 : k9 < W1.length
      · rw [List.getElem?_append_left h1] at hx
        exact hD1.2 k9 x hx
      · rw [List.getElem?_append_right (by omega)] at hx
        have := hr _ _ hx
        exact hA _ (by have := hS.1; omega)
  have hAr : ArrOfT s cA (.array ty) := fun N9 z9 => by
    obtain ⟨-, k9, hk9, cm9, hkk9⟩ := (hO 0 0 0).1
    exact ⟨(fun q hq => by cases hq), k9, hk9, cm9, hkk9⟩
  have hK2 : va_K D cl (tys ++ [(cA, .array ty)]) s := ⟨hK.1, fun k9 x hx => by
    by_cases hl : k9 < tys.length
    · rw [List.getElem?_append_left hl] at hx
      exact hK.2 k9 x hx
    · rw [List.getElem?_append_right (by omega)] at hx
      have h0 : k9 - tys.length < 1 := (List.getElem?_eq_some_iff.mp hx).1
      rw [show k9 - tys.length = 0 by omega] at hx
      cases hx
      exact ⟨hAr, fA⟩⟩
  obtain ⟨t, a1, b1⟩ := kk H.size (fun i => H.size + 1 + i) cA F.heap (fun i j _ _ h => by have h9 : H.size + 1 + i = H.size + 1 + j := h; omega) hnl hK2 (by rw [← vr_rows hnm]; exact vr_lay hP2) (by rw [← vr_rows hnm]; exact vr_layD hD2) ⟨by rw [f1]; have := hS.1; omega, fun x h1 h2 => (hold x (Nat.lt_of_lt_of_le h1 hS.1)).trans (hS.2.1 x h1 h2), hS.2.2⟩ F rfl X'
  refine ⟨t, step t ?_, b1⟩
  have e : T.heap.size = H.size := by rw [hT]
  rw [e]
  exact a1
end VGM
/-! ===== END ===== -/

/-! ===== BEGIN exceptions that leave a method, and their catching by the caller (launches without stack traces) ===== -/
section VXA
/-! The laws vx_back, vx_callV, vx_callS, vx_callSW, vx_throw0, vx_throwS follow proofs of the library, with one case more: JvmDerived/Free/Laws.lean (Back.of_free), Shelf42/LK1.lean (callV, callS), Shelf/KitTraced.lean (throwNew0V, throwNewS). -/
/-- where a method has thrown q: the class by its name, the cell, what was written, the world -/
def vx_T (XC : String → State → State → Prop) (st : State) (q : Addr) (t : State) (mc ms : Nat) (free : Addr → Prop) : Prop :=
  ∃ (E : String) (ce : Cell) (L : List Loc), XC E st t ∧ t.heap[q]? = some ce ∧ ce.vm = .none ∧ st.vm.findClass E = some ce.cls ∧ st.WarmedH t.vm ∧ st.sameButNew ({ t with vm := st.vm } : State) L mc ms ∧ ∀ z ∈ L, free z.base
def vx_Q (Qc : Array Value → State → Outcome → State → Prop) (XC : String → State → State → Prop) (mc ms : Nat) (free : Addr → Prop) : Array Value → State → Outcome → State → Prop := fun a st o t =>
  (Qc a st o t ∧ ∃ L, FrameEnd st o t L mc ms ∧ ∀ q ∈ L, free q.base) ∨ ∃ q, o = .threw q ∧ vx_T XC st q t mc ms free
/-- a callee that returns or throws -/
def vx_Met (l : Launch) (y : MethodName) (ws : List Cond) (rm : Room) (Pc : Array Value → State → Prop) (Qc : Array Value → State → Outcome → State → Prop) (XC : String → State → State → Prop) (mc ms : Nat) (free : Addr → Prop) : Prop :=
  MetFree l y (headSpec ws rm) Pc (fun _ _ _ _ _ => True) (vx_Q Qc XC mc ms free)
def vx_Post (XC : String → State → State → Prop) (mc ms : Nat) (free : Addr → Prop) : Pt → Array Value → Addr → Pt → Prop := fun A a q B =>
  ∃ (g : JFrame) (mk : MethodId) (t : State) (L : List Loc) (E : String) (ce : Cell), B.U.heap = t.heap ∧ B.U.vm = t.vm ∧ XC E (A.U.calling g mk a) t ∧ t.heap[q]? = some ce ∧ ce.vm = .none ∧ A.U.vm.findClass E = some ce.cls ∧ B.locs = A.locs ++ L ∧ (∀ z ∈ L, free z.base) ∧ B.cells = A.cells + mc ∧ B.slots = A.slots + ms
def vx_Back (l : Launch) (R : Room) (p : Program) (e : Env) (below : List Frame) (s : State) (sargs : Array Value) (y : MethodName) (len W9 : Nat)
    (Pre : Pt → Array Value → Prop) (Post : Pt → Array Value → Option Value → Pt → Prop) (PostX : Pt → Array Value → Addr → Pt → Prop) : Prop :=
  ∀ (m : MethodId) (meth : Method) (c : Code) (A : Pt) (g : JFrame) (ig : Instr) (mk : MethodId) (a : Array Value),
    Stand p l e R s m sargs below meth c A.U A.locs A.cells A.slots → g.method = m → g.locals.size = c.maxLocals → decode c.code g.pc = .ok (ig, len) →
    2 * g.monitorRoom + (g.stack.map fun v => v.category).sum ≤ W9 → A.U.methodNamed? y = some mk → Pre A a →
    (∃ (v : Option Value) (B : Pt), Stand p l e R s m sargs below meth c B.U B.locs B.cells B.slots ∧ Post A a v B ∧
      Steps p.tables e below (doInvoke e (A.U.setTop g) [] mk a).1 (B.U.setTop { g with pc := g.pc + len, stack := v.toList ++ g.stack })) ∨
    (∃ (q : Addr) (B : Pt), Stand p l e R s m sargs below meth c B.U B.locs B.cells B.slots ∧ PostX A a q B ∧
      Steps p.tables e below (doInvoke e (A.U.setTop g) [] mk a).1 ((B.U.setTop g).pushFrame (.throwing q)))
section Payer
variable {l : Launch} {R : Room} {p : Program} {e : Env} {below : List Frame} {s : State} {sargs : Array Value} {y : MethodName} {len W9 : Nat}
theorem vx_back {ws : List Cond} {rm : Room} {Pc : Array Value → State → Prop} {Qc : Array Value → State → Outcome → State → Prop} {XC : String → State → State → Prop} {mc ms : Nat} {free : Addr → Prop} {bytes : ByteArray} {maxL : Nat} {ret : Option FieldType}
    (hM : vx_Met l y ws rm Pc Qc XC mc ms free) (hblind : FrameBlind Pc) (hrc : rm.cells = mc) (hrs : rm.slots = ms)
    (hframes : rm.frames + 1 ≤ R.frames) (hlocals : W9 + (maxL + 11) + rm.locals ≤ R.locals)
    (hws : ∀ w ∈ ws, ∀ a' U, s.WarmedH U.vm → w.before a' U = true) (hcode : Cond.code y bytes maxL ret ∈ ws) (hinit : ∀ a' U, s.WarmedH U.vm → (Cond.initialized y.cls).before a' U = true) :
    vx_Back l R p e below s sargs y len W9 (PreOf R mc ms Pc) (PostOf Qc mc ms free) (vx_Post XC mc ms free) := by
  intro m meth c A g ig mk a X hg hsize hdg hW hn hp
  have h1 : (headSpec ws rm).pre.before a A.U = true := atoms_intro fun w hw => hws w hw _ _ X.warmed
  have h2 : (Cond.code y bytes maxL ret).before a A.U = true := hws _ hcode _ _ X.warmed
  have h3 : (Cond.initialized y.cls).before a A.U = true := hinit _ _ X.warmed
  have h4 : A.cells + (headSpec ws rm).room.cells ≤ R.cells := by rw [show (headSpec ws rm).room.cells = mc from hrc]; exact hp.1
  have h5 : A.slots + (headSpec ws rm).room.slots ≤ R.slots := by rw [show (headSpec ws rm).room.slots = ms from hrs]; exact hp.2.1
  have hPc : Pc a (A.U.calling g mk a) := hblind _ _ _ _ hp.2.2
  obtain ⟨U, Ls, c0, s0⟩ := A
  dsimp only [Pt.U, Pt.locs, Pt.cells, Pt.slots] at h1 h2 h3 h4 h5 X hn hPc ⊢
  obtain ⟨methY, cY, hmY, hcY, -, hlY, -, -, -, -⟩ := Cond.code_spec hn h2
  obtain ⟨kY, hkY, -⟩ := className_of_methodNamed hn
  have hinitY : kY.init = .initialized := Cond.initialized_spec (findClass_of_methodNamed hn) hkY h3
  have h : At U g.method c below := by rw [hg]; exact X.here
  have hlocals9 : W9 + (maxL + 11) + (headSpec ws rm).room.locals ≤ R.locals := hlocals
  have happ : (headSpec ws rm).appliesLoose y e.platform (U.calling g mk a) = true :=
    Spec.appliesLoose_calling (g := g) h hdg hn hkY hinitY
      (X.room_calling (g := g) (R' := (headSpec ws rm).room) hsize hmY hcY hframes (by rw [hlY]; omega) h4 h5) h1
  obtain ⟨mid, hmid⟩ := h.above
  have hfr : (U.setTop g).frames = (.java g :: mid) ++ below := by rw [State.frames_setTop' g h.top, hmid]; rfl
  obtain ⟨o, s₂, hsteps, -, hend, hq⟩ := Steps.callFree hM p X.admits X.cas X.clock (acts := []) hfr happ hPc trivial
  have hq' : vx_Q Qc XC mc ms free a (U.calling g mk a) o s₂ := hq
  rw [State.frames_setTop' g h.top] at hend
  obtain ⟨g₀, hg0⟩ := Option.isSome_iff_exists.mp h.top
  obtain ⟨r, hr⟩ := State.topJava?_eq_some.mp hg0
  have hr' : (({ U with heap := s₂.heap, slotsUsed := s₂.slotsUsed } : State).setVm s₂.vm).frames = .java g₀ :: r := hr
  rcases hq' with ⟨hqc, L, hfe, hL⟩ | ⟨q, rfl, E, ce, L, hx, hce, hcv, hcl, hW₂, hsm, hL⟩
  · obtain ⟨⟨v, rfl⟩, hW₂, e2, q2, q3, q4, q5, q6⟩ := id hfe
    have e3 : s₂ = ({ (U.calling g mk a).setFrames s₂.frames with heap := s₂.heap, slotsUsed := s₂.slotsUsed } : State).setVm s₂.vm := by
      have : s₂ = ({ s₂ with vm := (U.calling g mk a).vm } : State).setVm s₂.vm := rfl
      rw [e2] at this
      exact this
    obtain ⟨c₂, i₂, len₂, hc₂, hd₂, hf₂⟩ := hend
    have hW' : U.WarmedH s₂.vm := hW₂
    have hcc : c₂ = c := by
      have h1 : s₂.code? g.method = U.code? g.method := by
        rw [State.code?_eq, State.code?_eq, hW'.alike.method?]
      exact Option.some.inj (hc₂.symm.trans (h1.trans h.code))
    subst hcc
    have hlen : len₂ = len := by rw [hdg] at hd₂; cases hd₂; rfl
    subst hlen
    have hs₂ : s₂ = (({ U with heap := s₂.heap, slotsUsed := s₂.slotsUsed } : State).setVm s₂.vm).setTop { g with pc := g.pc + len₂, stack := v.toList ++ g.stack } := by
      refine e3.trans ?_
      rw [hf₂, State.calling_eq h.top, State.setFrames_setFrames, State.setTop_of_frames _ hr', hr]
      rfl
    have hsame : U.sameButNew ({ U with heap := s₂.heap, slotsUsed := s₂.slotsUsed } : State) L mc ms := by
      refine ⟨?_, q2, q3, q4, q5, q6⟩
      obtain ⟨t, ht, -⟩ := State.frames_cons hr
      show ({ U with heap := s₂.heap, slotsUsed := s₂.slotsUsed } : State) = { U.setFrames U.frames with heap := s₂.heap, slotsUsed := s₂.slotsUsed }
      rw [State.setFrames_self ht]
    subst hg
    refine Or.inl ⟨v, ⟨(({ U with heap := s₂.heap, slotsUsed := s₂.slotsUsed } : State).setVm s₂.vm), Ls ++ L, c0 + mc, s0 + ms⟩,
      ⟨X.admits, X.cas, X.clock, X.frames, X.room, X.hears, X.method, X.code, (X.here.setHeapUsed s₂.heap s₂.slotsUsed).setVm hW'.alike, X.tail, State.WarmedH.trans X.warmed hW', X.limits, X.bytes, X.same.trans (hsame.setVm s.vm)⟩,
      ⟨g, mk, s₂, L, rfl, rfl, hqc, rfl, hL, rfl, rfl⟩, ?_⟩
    show Steps p.tables e below _ ((({ U with heap := s₂.heap, slotsUsed := s₂.slotsUsed } : State).setVm s₂.vm).setTop { g with pc := g.pc + len₂, stack := v.toList ++ g.stack })
    rw [← hs₂]
    exact hsteps
  · obtain ⟨e2, q2, q3, q4, q5, q6⟩ := id hsm
    have e3 : s₂ = ({ (U.calling g mk a).setFrames s₂.frames with heap := s₂.heap, slotsUsed := s₂.slotsUsed } : State).setVm s₂.vm := by
      have : s₂ = ({ s₂ with vm := (U.calling g mk a).vm } : State).setVm s₂.vm := rfl
      rw [e2] at this
      exact this
    have hf₂ : s₂.frames = .throwing q :: .java g :: U.frames.tail := hend
    have hW' : U.WarmedH s₂.vm := hW₂
    have hs₂ : s₂ = ((({ U with heap := s₂.heap, slotsUsed := s₂.slotsUsed } : State).setVm s₂.vm).setTop g).pushFrame (.throwing q) := by
      refine e3.trans ?_
      rw [hf₂, State.calling_eq h.top, State.setFrames_setFrames, State.pushFrame, State.frames_setTop _ hr', State.setTop_of_frames _ hr', State.setFrames_setFrames, hr]
      rfl
    have hsame : U.sameButNew ({ U with heap := s₂.heap, slotsUsed := s₂.slotsUsed } : State) L mc ms := by
      refine ⟨?_, q2, q3, q4, q5, q6⟩
      obtain ⟨t, ht, -⟩ := State.frames_cons hr
      show ({ U with heap := s₂.heap, slotsUsed := s₂.slotsUsed } : State) = { U.setFrames U.frames with heap := s₂.heap, slotsUsed := s₂.slotsUsed }
      rw [State.setFrames_self ht]
    subst hg
    refine Or.inr ⟨q, ⟨(({ U with heap := s₂.heap, slotsUsed := s₂.slotsUsed } : State).setVm s₂.vm), Ls ++ L, c0 + mc, s0 + ms⟩,
      ⟨X.admits, X.cas, X.clock, X.frames, X.room, X.hears, X.method, X.code, (X.here.setHeapUsed s₂.heap s₂.slotsUsed).setVm hW'.alike, X.tail, State.WarmedH.trans X.warmed hW', X.limits, X.bytes, X.same.trans (hsame.setVm s.vm)⟩,
      ⟨g, mk, s₂, L, E, ce, rfl, rfl, hx, hce, hcv, hcl, rfl, hL, rfl, rfl⟩, ?_⟩
    show Steps p.tables e below _ (((({ U with heap := s₂.heap, slotsUsed := s₂.slotsUsed } : State).setVm s₂.vm).setTop g).pushFrame (.throwing q))
    rw [← hs₂]
    exact hsteps
end Payer
section Calls
variable {p : Program} {l : Launch} {e : Env} {R : Room} {s : State} {m : MethodId} {args : Array Value} {below : List Frame} {meth : Method} {c : Code} {T : State} {locs : List Loc} {cells slots : Nat}
theorem vx_callV (X : Stand p l e R s m args below meth c T locs cells slots) (hexec : p.tables.exec = Jvm.exec) {own C : String} {index : Nat} {y : MethodName} {bytes : ByteArray} {maxL : Nat} {ret : Option FieldType}
    (hown : s.vm.findClass own = some m.cls) (hlink : (Cond.methodLink own index y).before args s = true) (hinst : (Cond.instanceMethod y).before args s = true) (hsel : (Cond.selects C y y).before args s = true)
    (hcode : (Cond.code y bytes maxL ret).before args s = true) (hy : y.cls ≠ "java/lang/invoke/MethodHandle" ∧ y.cls ≠ "java/lang/invoke/VarHandle")
    {W9 : Nat} {Pre : Pt → Array Value → Prop} {Post : Pt → Array Value → Option Value → Pt → Prop} {PostX : Pt → Array Value → Addr → Pt → Prop} (hK : vx_Back l R p e below s args y 3 W9 Pre Post PostX)
    {b : Addr} {cellB : Cell} (hcell : T.heap[b]? = some cellB) (hobj : cellB.vm.isStatics = false) (hcls : s.vm.findClass C = some cellB.cls)
    {g : JFrame} (hg : g.method = m) (hsize : g.locals.size = c.maxLocals) {argsL rest : List Value} (hlen : ∀ sig, parseMethodDescriptor y.desc = some sig → argsL.length = sig.parameters.length)
    (hstack : g.stack = argsL.reverse ++ .ref b :: rest) (hW : 2 * g.monitorRoom + (rest.map fun v => v.category).sum ≤ W9) (hdg : decode c.code g.pc = .ok (.invokevirtual index, 3))
    (hpre : ∀ vm₁, s.WarmedH vm₁ → Pre ⟨T.setVm vm₁, locs, cells, slots⟩ (Value.ref b :: argsL).toArray) :
    (∃ (v : Option Value) (vm₁ : Vm) (B : Pt), s.WarmedH vm₁ ∧ Stand p l e R s m args below meth c B.U B.locs B.cells B.slots ∧ Post ⟨T.setVm vm₁, locs, cells, slots⟩ (Value.ref b :: argsL).toArray v B ∧
      ∀ target, Steps p.tables e below (B.U.setTop { g with pc := g.pc + 3, stack := v.toList ++ rest }) target → Steps p.tables e below (T.setTop g) target) ∨
    (∃ (q : Addr) (vm₁ : Vm) (B : Pt), s.WarmedH vm₁ ∧ Stand p l e R s m args below meth c B.U B.locs B.cells B.slots ∧ PostX ⟨T.setVm vm₁, locs, cells, slots⟩ (Value.ref b :: argsL).toArray q B ∧
      Steps p.tables e below (T.setTop g) ((B.U.setTop { g with stack := rest }).pushFrame (.throwing q))) := by
  obtain ⟨mk, methM, hnamed, hmethM, hstM, habM⟩ := Cond.instanceMethod_spec hinst
  obtain ⟨methM', cM, hmethM', -, -, -, -, -, -, hsigM⟩ := Cond.code_spec hnamed hcode
  cases hmethM.symm.trans hmethM'
  obtain ⟨c2, r2, m2, q1, q2, q3, q4, kP, hkP, hkPi⟩ := Cond.selects_spec hsel
  cases hcls.symm.trans q1
  cases (State.methodFound?_of_named hnamed hy).symm.trans q2
  cases hnamed.symm.trans q3
  have hselP : selectMethod e.platform s.vm cellB.cls mk = .method mk := by rw [Launch.admits_selectMethod X.admits]; exact q4
  obtain ⟨vm₁, X₁, hstep₁⟩ := X.invokevirtual hexec hown hlink hnamed hmethM hstM hkP hkPi hy (a := b) (cell := cellB) hcell
    (fun z h => by rw [h] at hobj; cases hobj) hselP hmethM habM hkP hkPi (g := g) hg (argsL := argsL) (rest := rest) (hlen _ hsigM) hstack hdg
  rcases hK m meth c ⟨T.setVm vm₁, locs, cells, slots⟩ { g with stack := rest } (.invokevirtual index) mk (Value.ref b :: argsL).toArray X₁ hg hsize hdg hW (X₁.named hnamed) (hpre vm₁ X₁.warmed) with ⟨v, B, X', hpost, hsteps⟩ | ⟨q, B, X', hpost, hsteps⟩
  · exact Or.inl ⟨v, vm₁, B, X₁.warmed, X', hpost, fun target h => hstep₁ _ fun acts => by rw [doInvoke_state]; exact hsteps.trans h⟩
  · exact Or.inr ⟨q, vm₁, B, X₁.warmed, X', hpost, hstep₁ _ fun acts => by rw [doInvoke_state]; exact hsteps⟩
theorem vx_callS (X : Stand p l e R s m args below meth c T locs cells slots) (hexec : p.tables.exec = Jvm.exec) {own : String} {index : Nat} {y : MethodName} {bytes : ByteArray} {maxL : Nat} {ret : Option FieldType}
    (hown : s.vm.findClass own = some m.cls) (hlink : (Cond.methodLink own index y).before args s = true) (hstat : (Cond.static y).before args s = true) (hinit : (Cond.initialized y.cls).before args s = true)
    (hcode : (Cond.code y bytes maxL ret).before args s = true) (hy : y.cls ≠ "java/lang/invoke/MethodHandle" ∧ y.cls ≠ "java/lang/invoke/VarHandle")
    {W9 : Nat} {Pre : Pt → Array Value → Prop} {Post : Pt → Array Value → Option Value → Pt → Prop} {PostX : Pt → Array Value → Addr → Pt → Prop} (hK : vx_Back l R p e below s args y 3 W9 Pre Post PostX)
    {g : JFrame} (hg : g.method = m) (hsize : g.locals.size = c.maxLocals) {argsL rest : List Value} (hlen : ∀ sig, parseMethodDescriptor y.desc = some sig → argsL.length = sig.parameters.length)
    (hstack : g.stack = argsL.reverse ++ rest) (hW : 2 * g.monitorRoom + (rest.map fun v => v.category).sum ≤ W9) (hdg : decode c.code g.pc = .ok (.invokestatic index, 3))
    (hpre : ∀ vm₁, s.WarmedH vm₁ → Pre ⟨T.setVm vm₁, locs, cells, slots⟩ argsL.toArray) :
    (∃ (v : Option Value) (vm₁ : Vm) (B : Pt), s.WarmedH vm₁ ∧ Stand p l e R s m args below meth c B.U B.locs B.cells B.slots ∧ Post ⟨T.setVm vm₁, locs, cells, slots⟩ argsL.toArray v B ∧
      ∀ target, Steps p.tables e below (B.U.setTop { g with pc := g.pc + 3, stack := v.toList ++ rest }) target → Steps p.tables e below (T.setTop g) target) ∨
    (∃ (q : Addr) (vm₁ : Vm) (B : Pt), s.WarmedH vm₁ ∧ Stand p l e R s m args below meth c B.U B.locs B.cells B.slots ∧ PostX ⟨T.setVm vm₁, locs, cells, slots⟩ argsL.toArray q B ∧
      Steps p.tables e below (T.setTop g) ((B.U.setTop { g with stack := rest }).pushFrame (.throwing q))) := by
  obtain ⟨mk, hnamed⟩ := Cond.code_named hcode
  obtain ⟨methM, cM, hmethM, -, -, -, -, -, -, hsigM⟩ := Cond.code_spec hnamed hcode
  have hstatic : methM.isStatic = true := Cond.static_spec hnamed hmethM hstat
  obtain ⟨kP, hkP, -⟩ := className_of_methodNamed hnamed
  have hinitP : kP.init = .initialized := Cond.initialized_spec (findClass_of_methodNamed hnamed) hkP hinit
  obtain ⟨vm₁, X₁, hstep₁⟩ := X.invokestatic hexec hown hlink hnamed hmethM hstatic hkP hinitP hy (g := g) hg (argsL := argsL) (rest := rest) (hlen _ hsigM) hstack hdg
  rcases hK m meth c ⟨T.setVm vm₁, locs, cells, slots⟩ { g with stack := rest } (.invokestatic index) mk argsL.toArray X₁ hg hsize hdg hW (X₁.named hnamed) (hpre vm₁ X₁.warmed) with ⟨v, B, X', hpost, hsteps⟩ | ⟨q, B, X', hpost, hsteps⟩
  · exact Or.inl ⟨v, vm₁, B, X₁.warmed, X', hpost, fun target h => hstep₁ _ fun acts => by rw [doInvoke_state]; exact hsteps.trans h⟩
  · exact Or.inr ⟨q, vm₁, B, X₁.warmed, X', hpost, hstep₁ _ fun acts => by rw [doInvoke_state]; exact hsteps⟩
end Calls
theorem vx_cls {s : State} {T : State} {vm₁ : Vm} {E : String} {k : ClassId} (hW : s.WarmedH vm₁) (h : (T.setVm vm₁).vm.findClass E = some k) : s.vm.findClass E = some k := by
  have h1 : vm₁.findClass E = some k := h
  rw [hW.alike.findClass] at h1
  exact h1
/-- the method's frame g, with q thrown over it -/
def vx_W (p : Program) (l : Launch) (e : Env) (R : Room) (s : State) (m : MethodId) (args : Array Value) (below : List Frame) (meth : Method) (c : Code) (H : Heap) (locs : List Loc) (cells slots : Nat) (Q : State → Prop) (g : JFrame) (q : Addr) : Prop :=
  ∀ T : State, T.heap = H → Stand p l e R s m args below meth c T locs cells slots → ∃ t, Steps p.tables e below ((T.setTop g).pushFrame (.throwing q)) t ∧ Q t
def vx_Run (p : Program) (l : Launch) (e : Env) (R : Room) (s : State) (m : MethodId) (args : Array Value) (below : List Frame) (meth : Method) (c : Code) (H : Heap) (locs : List Loc) (cells slots mc ms : Nat) (g : JFrame) (rest : List Value) (Qa : State → Outcome → State → Prop) (XC : String → State → State → Prop) (free : Addr → Prop) : Prop :=
  ∀ T : State, T.heap = H → Stand p l e R s m args below meth c T locs cells slots →
    (∃ (v : Option Value) (st₀ t T' : State) (L : List Loc), st₀.heap = H ∧ Stand p l e R s m args below meth c T' (locs ++ L) (cells + mc) (slots + ms) ∧ (∀ q ∈ L, free q.base) ∧ T'.heap = t.heap ∧ T'.vm = t.vm ∧ Qa st₀ (.returned v) t ∧
      Goes p e below T g T' { g with pc := g.pc + 3, stack := v.toList ++ rest }) ∨
    (∃ (q : Addr) (st₀ t T' : State) (L : List Loc) (E : String) (ce : Cell), st₀.heap = H ∧ Stand p l e R s m args below meth c T' (locs ++ L) (cells + mc) (slots + ms) ∧ (∀ z ∈ L, free z.base) ∧ T'.heap = t.heap ∧ T'.vm = t.vm ∧ XC E st₀ t ∧ t.heap[q]? = some ce ∧ ce.vm = .none ∧ s.vm.findClass E = some ce.cls ∧
      Steps p.tables e below (T.setTop g) ((T'.setTop { g with stack := rest }).pushFrame (.throwing q)))
def vx_X {S : Type} (px : S → Prop) (B : String → S → State → Prop) (A : Nat → Prop) : String → State → State → Prop := fun E st t => ∃ u : S, px u ∧ B E u t ∧ va_F A st t
section Runs
variable {p : Program} {l : Launch} {e : Env} {R : Room} {s : State} {m : MethodId} {args : Array Value} {below : List Frame} {meth : Method} {c : Code} {H : Heap} {locs : List Loc} {cells slots : Nat}
variable {y : MethodName} {bytes cc : ByteArray} {maxL nL mc ms n index : Nat} {ret : Option FieldType} {ws : List Cond} {rm : Room} {Pc : Array Value → State → Prop} {Qc : Array Value → State → Outcome → State → Prop} {XC : String → State → State → Prop} {free : Addr → Prop} {Ts : List Cond} {own C : String} {b : Addr} {As rest : List Value} {g : JFrame}
theorem vx_callBack (cb : CallB R s args own index y bytes maxL ret ws rm mc ms n) (hM : vx_Met l y ws rm Pc Qc XC mc ms free) (hbl : FrameBlind Pc) : vx_Back l R p e below s args y 3 8 (PreOf R mc ms Pc) (PostOf Qc mc ms free) (vx_Post XC mc ms free) := by
  obtain ⟨hrc, hrs, hfr, hlo, hws, hcw, -, hini, -⟩ := cb
  exact vx_back (bytes := bytes) (maxL := maxL) (ret := ret) hM hbl hrc hrs hfr hlo hws hcw (fun a' U hW => word_at hW (Or.inl (by first | rfl | simp [Cond.onTables, Cond.keeps, Cond.steady])) hini)
theorem vx_runV (S : CallFix p m c cc nL s args Ts own) (hM : vx_Met l y ws rm Pc Qc XC mc ms free) (cw : CallW R s args own C index y bytes maxL ret ws rm mc ms n) (hp : PreV s H C b Pc As)
    (hg : g.method = m) (hn : As.length = n) (hsize : g.locals.size = nL) (hstack : g.stack = As.reverse ++ .ref b :: rest) (hW : 2 * g.monitorRoom + (rest.map fun v => v.category).sum ≤ 8) (hdg : decode cc g.pc = .ok (.invokevirtual index, 3)) (hf : cells + mc ≤ R.cells ∧ slots + ms ≤ R.slots) :
    vx_Run p l e R s m args below meth c H locs cells slots mc ms g rest (Qc (Value.ref b :: As).toArray) XC free := by
  have hK : vx_Back l R p e below s args y 3 8 (PreOf R mc ms Pc) (PostOf Qc mc ms free) (vx_Post XC mc ms free) := vx_callBack cw.1 hM hp.1
  obtain ⟨⟨-, -, -, -, -, -, hcode, -, hy, hlen, hl⟩, hin, hse⟩ := cw
  obtain ⟨hx, hb, hml, ho, -⟩ := S
  obtain ⟨-, ⟨cellB, hcB, hoB, hclB⟩, hPc⟩ := hp
  intro T hT X
  rcases vx_callV X hx (C := C) (bytes := bytes) (maxL := maxL) (ret := ret) ho hl hin hse hcode hy hK (by rw [hT]; exact hcB) hoB hclB hg (hsize.trans hml.symm) (argsL := As) (rest := rest) (fun sig h => hn.trans (hlen sig h)) hstack hW (by rw [hb]; exact hdg)
    (fun vm₁ hW₁ => ⟨hf.1, hf.2, hPc (T.setVm vm₁) hT hW₁⟩) with ⟨v, vm₁, ⟨U', l2, c2, s2⟩, hW₁, X', ⟨g', mk, t, L, e1, e2, hq, h1, hL, h2, h3⟩, st⟩ | ⟨q, vm₁, ⟨U', l2, c2, s2⟩, hW₁, X', ⟨g', mk, t, L, E, ce, e1, e2, hq, hce, hcv, hcl, h1, hL, h2, h3⟩, st⟩
  · dsimp only [Pt.U, Pt.locs, Pt.cells, Pt.slots] at X' e1 e2 h1 h2 h3 st
    subst h1; subst h2; subst h3
    exact Or.inl ⟨v, (T.setVm vm₁).calling g' mk (Value.ref b :: As).toArray, t, U', L, hT, X', hL, e1, e2, hq, st⟩
  · dsimp only [Pt.U, Pt.locs, Pt.cells, Pt.slots] at X' e1 e2 h1 h2 h3 st hcl
    subst h1; subst h2; subst h3
    exact Or.inr ⟨q, (T.setVm vm₁).calling g' mk (Value.ref b :: As).toArray, t, U', L, E, ce, hT, X', hL, e1, e2, hq, hce, hcv, vx_cls hW₁ hcl, st⟩
theorem vx_runS (S : CallFix p m c cc nL s args Ts own) (hM : vx_Met l y ws rm Pc Qc XC mc ms free) (cw : CallB R s args own index y bytes maxL ret ws rm mc ms n ∧ (Cond.static y).before args s = true) (hp : PreS s H Pc As)
    (hg : g.method = m) (hn : As.length = n) (hsize : g.locals.size = nL) (hstack : g.stack = As.reverse ++ rest) (hW : 2 * g.monitorRoom + (rest.map fun v => v.category).sum ≤ 8) (hdg : decode cc g.pc = .ok (.invokestatic index, 3)) (hf : cells + mc ≤ R.cells ∧ slots + ms ≤ R.slots) :
    vx_Run p l e R s m args below meth c H locs cells slots mc ms g rest (Qc As.toArray) XC free := by
  have hK : vx_Back l R p e below s args y 3 8 (PreOf R mc ms Pc) (PostOf Qc mc ms free) (vx_Post XC mc ms free) := vx_callBack cw.1 hM hp.1
  obtain ⟨⟨-, -, -, -, -, -, hcode, hini, hy, hlen, hl⟩, hstt⟩ := cw
  obtain ⟨hx, hb, hml, ho, -⟩ := S
  intro T hT X
  rcases vx_callS X hx (bytes := bytes) (maxL := maxL) (ret := ret) ho hl hstt hini hcode hy hK hg (hsize.trans hml.symm) (argsL := As) (rest := rest) (fun sig h => hn.trans (hlen sig h)) hstack hW (by rw [hb]; exact hdg)
    (fun vm₁ hW₁ => ⟨hf.1, hf.2, hp.2 (T.setVm vm₁) hT hW₁⟩) with ⟨v, vm₁, ⟨U', l2, c2, s2⟩, hW₁, X', ⟨g', mk, t, L, e1, e2, hq, h1, hL, h2, h3⟩, st⟩ | ⟨q, vm₁, ⟨U', l2, c2, s2⟩, hW₁, X', ⟨g', mk, t, L, E, ce, e1, e2, hq, hce, hcv, hcl, h1, hL, h2, h3⟩, st⟩
  · dsimp only [Pt.U, Pt.locs, Pt.cells, Pt.slots] at X' e1 e2 h1 h2 h3 st
    subst h1; subst h2; subst h3
    exact Or.inl ⟨v, (T.setVm vm₁).calling g' mk As.toArray, t, U', L, hT, X', hL, e1, e2, hq, st⟩
  · dsimp only [Pt.U, Pt.locs, Pt.cells, Pt.slots] at X' e1 e2 h1 h2 h3 st hcl
    subst h1; subst h2; subst h3
    exact Or.inr ⟨q, (T.setVm vm₁).calling g' mk As.toArray, t, U', L, E, ce, hT, X', hL, e1, e2, hq, hce, hcv, vx_cls hW₁ hcl, st⟩
end Runs
section Rows
variable {p : Program} {l : Launch} {e : Env} {R : Room} {s : State} {m : MethodId} {args : Array Value} {below : List Frame} {meth : Method} {c : Code} {H : Heap} {locs : List Loc} {cells slots : Nat} {Q : State → Prop}
variable {mc ms : Nat} {free : Addr → Prop} {A0 A1 : Nat → Prop} {H0 : Heap} {a : Array Value} {pc : Nat} {ls : Array Slot} {st0 rest : List Value}
theorem vx_keep {st₀ t T' : State} {L : List Loc} (h0 : st₀.heap = H) (e1 : T'.heap = t.heap) (hS : va_S A0 H0 H locs) (hA : ∀ q, q < H.size → A1 q → A0 q) (hf : ∀ q, free q → A0 q) (hL : ∀ q ∈ L, free q.base) (hF : va_F A1 st₀ t) :
    H.size ≤ T'.heap.size ∧ (∀ q : Nat, q < H.size → ¬ A1 q → T'.heap[q]? = H[q]?) ∧ va_S A0 H0 T'.heap (locs ++ L) := by
  obtain ⟨hz, hk⟩ := hF
  rw [h0] at hz hk
  exact ⟨by rw [e1]; exact hz, fun q h1 h2 => by rw [e1]; exact hk q h1 h2,
    ⟨Nat.le_trans hS.1 (by rw [e1]; exact hz), fun q h1 h2 => by rw [e1, hk q (Nat.lt_of_lt_of_le h1 hS.1) (fun z => h2 (hA q (Nat.lt_of_lt_of_le h1 hS.1) z))]; exact hS.2.1 q h1 h2, fun q hq => by
      rcases List.mem_append.mp hq with h | h
      · exact hS.2.2 q h
      · exact hf _ (hL q h)⟩⟩
theorem vx_calli {S SX : Type} {post : Int32 → S → Prop} {px : SX → Prop} {B : S → State → Prop} {BX : String → SX → State → Prop} {AX : Nat → Prop} (hr : vx_Run p l e R s m args below meth c H locs cells slots mc ms (F0 m pc ls st0) rest (va_Qi post B A1 a) (vx_X px BX AX) free) (hS : va_S A0 H0 H locs) (hA : ∀ q, q < H.size → A1 q → A0 q) (hf : ∀ q, free q → A0 q) (hAX : ∀ q, q < H.size → AX q → A0 q)
    (kx : ∀ (E : String) (ce : Cell) (q9 : Addr) (u : SX) (t : State) (H1 : Heap) (locs1 : List Loc), t.heap = H1 → s.vm.Alike t.vm → px u → BX E u t → H.size ≤ H1.size → (∀ q : Nat, q < H.size → ¬ AX q → H1[q]? = H[q]?) → va_S A0 H0 H1 locs1 → H1[q9]? = some ce → ce.vm = .none → s.vm.findClass E = some ce.cls → vx_W p l e R s m args below meth c H1 locs1 (cells + mc) (slots + ms) Q (F0 m pc ls rest) q9)
    (kk : ∀ (r : Int32) (u : S) (t : State) (H1 : Heap) (locs1 : List Loc), t.heap = H1 → s.vm.Alike t.vm → post r u → B u t → H.size ≤ H1.size → (∀ q : Nat, q < H.size → ¬ A1 q → H1[q]? = H[q]?) → va_S A0 H0 H1 locs1 → W p l e R s m args below meth c H1 locs1 (cells + mc) (slots + ms) Q (F0 m (pc + 3) ls (.int r :: rest))) : W p l e R s m args below meth c H locs cells slots Q (F0 m pc ls st0) := by
  intro T hT X
  rcases hr T hT X with ⟨v, st₀, t, T', L, h0, X', hL, e1, e2, ⟨⟨r, u, hv, hp, hb⟩, hF⟩, st⟩ | ⟨q, st₀, t, T', L, E, ce, h0, X', hL, e1, e2, ⟨u, hp, hb, hF⟩, hce, hcv, hcl, st⟩
  · cases hv
    obtain ⟨k1, k2, k3⟩ := vx_keep h0 e1 hS hA hf hL hF
    obtain ⟨t2, a1, b1⟩ := kk r u t T'.heap (locs ++ L) e1.symm (by rw [← e2]; exact X'.warmed.alike) hp hb k1 k2 k3 T' rfl X'
    exact ⟨t2, st t2 a1, b1⟩
  · obtain ⟨k1, k2, k3⟩ := vx_keep h0 e1 hS hAX hf hL hF
    obtain ⟨t2, a1, b1⟩ := kx E ce q u t T'.heap (locs ++ L) e1.symm (by rw [← e2]; exact X'.warmed.alike) hp hb k1 k2 k3 (by rw [e1]; exact hce) hcv hcl T' rfl X'
    exact ⟨t2, st.trans a1, b1⟩
theorem vx_calll {S SX : Type} {post : Int64 → S → Prop} {px : SX → Prop} {B : S → State → Prop} {BX : String → SX → State → Prop} {AX : Nat → Prop} (hr : vx_Run p l e R s m args below meth c H locs cells slots mc ms (F0 m pc ls st0) rest (va_Ql post B A1 a) (vx_X px BX AX) free) (hS : va_S A0 H0 H locs) (hA : ∀ q, q < H.size → A1 q → A0 q) (hf : ∀ q, free q → A0 q) (hAX : ∀ q, q < H.size → AX q → A0 q)
    (kx : ∀ (E : String) (ce : Cell) (q9 : Addr) (u : SX) (t : State) (H1 : Heap) (locs1 : List Loc), t.heap = H1 → s.vm.Alike t.vm → px u → BX E u t → H.size ≤ H1.size → (∀ q : Nat, q < H.size → ¬ AX q → H1[q]? = H[q]?) → va_S A0 H0 H1 locs1 → H1[q9]? = some ce → ce.vm = .none → s.vm.findClass E = some ce.cls → vx_W p l e R s m args below meth c H1 locs1 (cells + mc) (slots + ms) Q (F0 m pc ls rest) q9)
    (kk : ∀ (r : Int64) (u : S) (t : State) (H1 : Heap) (locs1 : List Loc), t.heap = H1 → s.vm.Alike t.vm → post r u → B u t → H.size ≤ H1.size → (∀ q : Nat, q < H.size → ¬ A1 q → H1[q]? = H[q]?) → va_S A0 H0 H1 locs1 → W p l e R s m args below meth c H1 locs1 (cells + mc) (slots + ms) Q (F0 m (pc + 3) ls (.long r :: rest))) : W p l e R s m args below meth c H locs cells slots Q (F0 m pc ls st0) := by
  intro T hT X
  rcases hr T hT X with ⟨v, st₀, t, T', L, h0, X', hL, e1, e2, ⟨⟨r, u, hv, hp, hb⟩, hF⟩, st⟩ | ⟨q, st₀, t, T', L, E, ce, h0, X', hL, e1, e2, ⟨u, hp, hb, hF⟩, hce, hcv, hcl, st⟩
  · cases hv
    obtain ⟨k1, k2, k3⟩ := vx_keep h0 e1 hS hA hf hL hF
    obtain ⟨t2, a1, b1⟩ := kk r u t T'.heap (locs ++ L) e1.symm (by rw [← e2]; exact X'.warmed.alike) hp hb k1 k2 k3 T' rfl X'
    exact ⟨t2, st t2 a1, b1⟩
  · obtain ⟨k1, k2, k3⟩ := vx_keep h0 e1 hS hAX hf hL hF
    obtain ⟨t2, a1, b1⟩ := kx E ce q u t T'.heap (locs ++ L) e1.symm (by rw [← e2]; exact X'.warmed.alike) hp hb k1 k2 k3 (by rw [e1]; exact hce) hcv hcl T' rfl X'
    exact ⟨t2, st.trans a1, b1⟩
theorem vx_callf {S SX : Type} {post : UInt32 → S → Prop} {px : SX → Prop} {B : S → State → Prop} {BX : String → SX → State → Prop} {AX : Nat → Prop} (hr : vx_Run p l e R s m args below meth c H locs cells slots mc ms (F0 m pc ls st0) rest (va_Qf post B A1 a) (vx_X px BX AX) free) (hS : va_S A0 H0 H locs) (hA : ∀ q, q < H.size → A1 q → A0 q) (hf : ∀ q, free q → A0 q) (hAX : ∀ q, q < H.size → AX q → A0 q)
    (kx : ∀ (E : String) (ce : Cell) (q9 : Addr) (u : SX) (t : State) (H1 : Heap) (locs1 : List Loc), t.heap = H1 → s.vm.Alike t.vm → px u → BX E u t → H.size ≤ H1.size → (∀ q : Nat, q < H.size → ¬ AX q → H1[q]? = H[q]?) → va_S A0 H0 H1 locs1 → H1[q9]? = some ce → ce.vm = .none → s.vm.findClass E = some ce.cls → vx_W p l e R s m args below meth c H1 locs1 (cells + mc) (slots + ms) Q (F0 m pc ls rest) q9)
    (kk : ∀ (r : UInt32) (u : S) (t : State) (H1 : Heap) (locs1 : List Loc), t.heap = H1 → s.vm.Alike t.vm → post r u → B u t → H.size ≤ H1.size → (∀ q : Nat, q < H.size → ¬ A1 q → H1[q]? = H[q]?) → va_S A0 H0 H1 locs1 → W p l e R s m args below meth c H1 locs1 (cells + mc) (slots + ms) Q (F0 m (pc + 3) ls (.float r :: rest))) : W p l e R s m args below meth c H locs cells slots Q (F0 m pc ls st0) := by
  intro T hT X
  rcases hr T hT X with ⟨v, st₀, t, T', L, h0, X', hL, e1, e2, ⟨⟨r, u, hv, hp, hb⟩, hF⟩, st⟩ | ⟨q, st₀, t, T', L, E, ce, h0, X', hL, e1, e2, ⟨u, hp, hb, hF⟩, hce, hcv, hcl, st⟩
  · cases hv
    obtain ⟨k1, k2, k3⟩ := vx_keep h0 e1 hS hA hf hL hF
    obtain ⟨t2, a1, b1⟩ := kk r u t T'.heap (locs ++ L) e1.symm (by rw [← e2]; exact X'.warmed.alike) hp hb k1 k2 k3 T' rfl X'
    exact ⟨t2, st t2 a1, b1⟩
  · obtain ⟨k1, k2, k3⟩ := vx_keep h0 e1 hS hAX hf hL hF
    obtain ⟨t2, a1, b1⟩ := kx E ce q u t T'.heap (locs ++ L) e1.symm (by rw [← e2]; exact X'.warmed.alike) hp hb k1 k2 k3 (by rw [e1]; exact hce) hcv hcl T' rfl X'
    exact ⟨t2, st.trans a1, b1⟩
theorem vx_calld {S SX : Type} {post : UInt64 → S → Prop} {px : SX → Prop} {B : S → State → Prop} {BX : String → SX → State → Prop} {AX : Nat → Prop} (hr : vx_Run p l e R s m args below meth c H locs cells slots mc ms (F0 m pc ls st0) rest (va_Qd post B A1 a) (vx_X px BX AX) free) (hS : va_S A0 H0 H locs) (hA : ∀ q, q < H.size → A1 q → A0 q) (hf : ∀ q, free q → A0 q) (hAX : ∀ q, q < H.size → AX q → A0 q)
    (kx : ∀ (E : String) (ce : Cell) (q9 : Addr) (u : SX) (t : State) (H1 : Heap) (locs1 : List Loc), t.heap = H1 → s.vm.Alike t.vm → px u → BX E u t → H.size ≤ H1.size → (∀ q : Nat, q < H.size → ¬ AX q → H1[q]? = H[q]?) → va_S A0 H0 H1 locs1 → H1[q9]? = some ce → ce.vm = .none → s.vm.findClass E = some ce.cls → vx_W p l e R s m args below meth c H1 locs1 (cells + mc) (slots + ms) Q (F0 m pc ls rest) q9)
    (kk : ∀ (r : UInt64) (u : S) (t : State) (H1 : Heap) (locs1 : List Loc), t.heap = H1 → s.vm.Alike t.vm → post r u → B u t → H.size ≤ H1.size → (∀ q : Nat, q < H.size → ¬ A1 q → H1[q]? = H[q]?) → va_S A0 H0 H1 locs1 → W p l e R s m args below meth c H1 locs1 (cells + mc) (slots + ms) Q (F0 m (pc + 3) ls (.double r :: rest))) : W p l e R s m args below meth c H locs cells slots Q (F0 m pc ls st0) := by
  intro T hT X
  rcases hr T hT X with ⟨v, st₀, t, T', L, h0, X', hL, e1, e2, ⟨⟨r, u, hv, hp, hb⟩, hF⟩, st⟩ | ⟨q, st₀, t, T', L, E, ce, h0, X', hL, e1, e2, ⟨u, hp, hb, hF⟩, hce, hcv, hcl, st⟩
  · cases hv
    obtain ⟨k1, k2, k3⟩ := vx_keep h0 e1 hS hA hf hL hF
    obtain ⟨t2, a1, b1⟩ := kk r u t T'.heap (locs ++ L) e1.symm (by rw [← e2]; exact X'.warmed.alike) hp hb k1 k2 k3 T' rfl X'
    exact ⟨t2, st t2 a1, b1⟩
  · obtain ⟨k1, k2, k3⟩ := vx_keep h0 e1 hS hAX hf hL hF
    obtain ⟨t2, a1, b1⟩ := kx E ce q u t T'.heap (locs ++ L) e1.symm (by rw [← e2]; exact X'.warmed.alike) hp hb k1 k2 k3 (by rw [e1]; exact hce) hcv hcl T' rfl X'
    exact ⟨t2, st.trans a1, b1⟩
theorem vx_callv {S SX : Type} {post : S → Prop} {px : SX → Prop} {B : S → State → Prop} {BX : String → SX → State → Prop} {AX : Nat → Prop} (hr : vx_Run p l e R s m args below meth c H locs cells slots mc ms (F0 m pc ls st0) rest (va_Qv post B A1 a) (vx_X px BX AX) free) (hS : va_S A0 H0 H locs) (hA : ∀ q, q < H.size → A1 q → A0 q) (hf : ∀ q, free q → A0 q) (hAX : ∀ q, q < H.size → AX q → A0 q)
    (kx : ∀ (E : String) (ce : Cell) (q9 : Addr) (u : SX) (t : State) (H1 : Heap) (locs1 : List Loc), t.heap = H1 → s.vm.Alike t.vm → px u → BX E u t → H.size ≤ H1.size → (∀ q : Nat, q < H.size → ¬ AX q → H1[q]? = H[q]?) → va_S A0 H0 H1 locs1 → H1[q9]? = some ce → ce.vm = .none → s.vm.findClass E = some ce.cls → vx_W p l e R s m args below meth c H1 locs1 (cells + mc) (slots + ms) Q (F0 m pc ls rest) q9)
    (kk : ∀ (u : S) (t : State) (H1 : Heap) (locs1 : List Loc), t.heap = H1 → s.vm.Alike t.vm → post u → B u t → H.size ≤ H1.size → (∀ q : Nat, q < H.size → ¬ A1 q → H1[q]? = H[q]?) → va_S A0 H0 H1 locs1 → W p l e R s m args below meth c H1 locs1 (cells + mc) (slots + ms) Q (F0 m (pc + 3) ls (rest))) : W p l e R s m args below meth c H locs cells slots Q (F0 m pc ls st0) := by
  intro T hT X
  rcases hr T hT X with ⟨v, st₀, t, T', L, h0, X', hL, e1, e2, ⟨⟨u, hv, hp, hb⟩, hF⟩, st⟩ | ⟨q, st₀, t, T', L, E, ce, h0, X', hL, e1, e2, ⟨u, hp, hb, hF⟩, hce, hcv, hcl, st⟩
  · cases hv
    obtain ⟨k1, k2, k3⟩ := vx_keep h0 e1 hS hA hf hL hF
    obtain ⟨t2, a1, b1⟩ := kk u t T'.heap (locs ++ L) e1.symm (by rw [← e2]; exact X'.warmed.alike) hp hb k1 k2 k3 T' rfl X'
    exact ⟨t2, st t2 a1, b1⟩
  · obtain ⟨k1, k2, k3⟩ := vx_keep h0 e1 hS hAX hf hL hF
    obtain ⟨t2, a1, b1⟩ := kx E ce q u t T'.heap (locs ++ L) e1.symm (by rw [← e2]; exact X'.warmed.alike) hp hb k1 k2 k3 (by rw [e1]; exact hce) hcv hcl T' rfl X'
    exact ⟨t2, st.trans a1, b1⟩
/-- caught by the row x of this method's table; the rows ahead don't take it -/
theorem vx_catch {own name : String} {E : String} {ce : Cell} {q : Addr} (hown : s.vm.findClass own = some m.cls) (pre : List ExceptionTableEntry) (x : ExceptionTableEntry) (suf : List ExceptionTableEntry) (hsplit : c.exceptionTable.toList = pre ++ x :: suf)
    (hpass : ∀ z ∈ pre, covers z pc = false ∨ (z.catchType ≠ 0 ∧ ∃ nm : String, (Cond.classLink own z.catchType nm).before args s = true ∧ va_Nc E nm s)) (hx : covers x pc = true) (h0 : x.catchType ≠ 0)
    (hlink : (Cond.classLink own x.catchType name).before args s = true) (hcast : (Cond.castable E name).before args s = true) (hcell : H[q]? = some ce) (hv : ce.vm = .none) (hcl : s.vm.findClass E = some ce.cls)
    (kk : W p l e R s m args below meth c H locs cells slots Q (F0 m x.handlerPc ls [.ref q])) : vx_W p l e R s m args below meth c H locs cells slots Q (F0 m pc ls rest) q := by
  intro T hT X
  have hpl : e.platform.magicAccessors = ({} : Platform).magicAccessors := by rw [X.admits.platform]
  obtain ⟨c3, c4, hc3, hc4, hasg⟩ := Cond.castable_spec hcast
  cases Option.some.inj (hc3.symm.trans hcl)
  obtain ⟨c5, hc5, hcl5⟩ := Cond.classLink_spec hown hlink e.platform hpl
  cases Option.some.inj (hc4.symm.trans hc5)
  obtain ⟨vm', X', st⟩ := X.thenCaughtThrough q (g := F0 m pc ls rest) rfl (Steps.refl _) (by rw [hT]; exact hcell) (by rw [hv]; rfl) (by obtain ⟨k9, h9, -⟩ := Vm.findClass_spec hcl; exact ⟨k9, h9⟩) pre x suf hsplit
    (fun z hz => by
      rcases hpass z hz with h | ⟨hz0, nm, hl1, hn1⟩
      · exact Or.inl h
      · obtain ⟨c6, hc6, hcl6⟩ := Cond.classLink_spec hown hl1 e.platform hpl
        obtain ⟨a8, b8, h1, h2, h3⟩ := hn1
        cases Option.some.inj (h1.symm.trans hcl)
        cases Option.some.inj (h2.symm.trans hc6)
        exact Or.inr ⟨hz0, _, hcl6, h3⟩) hx (Or.inr ⟨h0, c4, hcl5, hasg⟩)
  obtain ⟨t, a1, b1⟩ := kk (T.setVm vm') hT X'
  exact ⟨t, st.trans a1, b1⟩
end Rows
section Ends
variable {p : Program} {l : Launch} {e : Env} {R : Room} {s : State} {m : MethodId} {args : Array Value} {below : List Frame} {meth : Method} {c : Code} {H : Heap} {locs : List Loc} {cells slots : Nat} {Q : State → Prop}
variable {mc ms : Nat} {free : Addr → Prop} {A0 A1 : Nat → Prop} {H0 : Heap} {a : Array Value} {ls : Array Slot} {st0 rest : List Value}
variable {Qc : Array Value → State → Outcome → State → Prop} {XC : String → State → State → Prop}
/-- what a body that may throw owes at its end -/
def vx_MQ (below : List Frame) (Qc : Array Value → State → Outcome → State → Prop) (XC : String → State → State → Prop) (a : Array Value) (s : State) (mc ms : Nat) (free : Addr → Prop) : State → Prop := fun t =>
  ∃ o, t.status = .running ∧ Ended t below o ∧ vx_Q Qc XC mc ms free a s o t
theorem vx_ret {g : JFrame} {mc ms : Nat} (k : W p l e R s m args below meth c H locs cells slots (MQ below Qc args s mc ms free) g) : W p l e R s m args below meth c H locs cells slots (vx_MQ below Qc XC args s mc ms free) g := by
  intro T hT X
  obtain ⟨t, a1, o, b1, b2, b3, b4⟩ := k T hT X
  exact ⟨t, a1, o, b1, b2, Or.inl ⟨b3, b4⟩⟩
/-- not caught here: it goes on to the caller -/
theorem vx_widen {g : JFrame} {q : Addr} {k n : Nat} (h1 : cells ≤ k) (h2 : slots ≤ n) (kk : vx_W p l e R s m args below meth c H locs k n Q g q) : vx_W p l e R s m args below meth c H locs cells slots Q g q := fun T hT X => kk T hT (stand_widen X h1 h2)
theorem vx_out {pc : Nat} {E : String} {ce : Cell} {q : Addr} {mc ms : Nat} (hout : ∀ x ∈ c.exceptionTable.toList, covers x pc = false) (hlocks : meth.locks = false) (hcell : H[q]? = some ce) (hv : ce.vm = .none) (hcl : s.vm.findClass E = some ce.cls)
    (hx : ∀ t : State, t.heap = H → s.vm.Alike t.vm → XC E s t) (hf : ∀ z ∈ locs, free z.base) (hc : cells ≤ mc) (hs : slots ≤ ms) :
    vx_W p l e R s m args below meth c H locs cells slots (vx_MQ below Qc XC args s mc ms free) (F0 m pc ls rest) q := by
  intro T hT X
  obtain ⟨st1, hrun, hend, hW, hsm⟩ := X.leaveThrown q (g := F0 m pc ls rest) rfl rfl rfl hout hlocks
  have hcell9 : (T.setFrames (.throwing q :: below)).heap[q]? = some ce := by
    show T.heap[q]? = some ce
    rw [hT]; exact hcell
  exact ⟨_, st1, .threw q, hrun, hend, Or.inr ⟨q, rfl, E, ce, locs, hx _ hT hW.alike, hcell9, hv, hcl, hW, hsm.mono hc hs, hf⟩⟩
theorem vx_frame {U : State} {k n : Nat} (h : s.sameButNew ({ U with vm := s.vm } : State) locs k n) : s.heap.size ≤ U.heap.size ∧ ∀ q : Nat, q < s.heap.size → (∀ z ∈ locs, z.base ≠ q) → U.heap[q]? = s.heap[q]? := by
  obtain ⟨-, h2, -, -, -, h6⟩ := h
  refine ⟨h2, fun q hq hz => ?_⟩
  obtain ⟨c9, e1, e2, e3, e4⟩ := h6 q _ (Array.getElem?_eq_getElem hq)
  have hs : c9.slots = (s.heap[q]).slots := Array.ext_getElem? fun i => e4 i fun hm => hz _ hm rfl
  have h9 : c9 = s.heap[q] := by
    rw [hs] at e2
    exact e2
  have e5 : U.heap[q]? = some c9 := e1
  rw [e5, h9, Array.getElem?_eq_getElem hq]
/-- the words of a throw but the four that speak of the heap -/
def vx_no (w : Cond) : Bool := decide (w ≠ .isRef (.static Bundle.tN "UNASSIGNED_STACK" Bundle.steD)) && decide (w ≠ .isRef (.static Bundle.tN "SUPPRESSED_SENTINEL" Bundle.listD)) && decide (w ≠ .laysStatic Bundle.tN "UNASSIGNED_STACK" Bundle.steD) && decide (w ≠ .laysStatic Bundle.tN "SUPPRESSED_SENTINEL" Bundle.listD)
def vx_at0 (own : String) (ic : Nat) (X : String) (names : List String) : List Cond := (Bundle.ownAtoms0 own ic X names).filter vx_no
def vx_atS (own : String) (ic : Nat) (X : String) (names : List String) : List Cond := (Bundle.ownAtoms own ic X names).filter vx_no
/-- a word that the tables alone decide, or a good one -/
def vx_ot (w : Cond) : Bool := w.onTables || goodWord w
theorem vx_ot_at {args a' : Array Value} {s U : State} {w : Cond} (hW : s.WarmedH U.vm) (hvm : s.vm = U.vm) (hg : vx_ot w = true) (h : w.before args s = true) : w.before a' U = true := by
  simp only [vx_ot, Bool.or_eq_true] at hg
  rcases hg with hg | hg
  · exact va_tabs hg hvm h
  · exact word_at hW (good_of_word hg) h
/-- a list's words: the good ones out of the method's own list, the others by premises of their own -/
theorem vx_hat {args : Array Value} {s : State} {L B : List Cond} (h1 : ∀ w ∈ L.filter goodWord, w.before args s = true) (h2 : ∀ w ∈ L.filter (fun w => !goodWord w), w ∈ B) (h3 : ∀ w ∈ B, w.before args s = true) : ∀ w ∈ L, w.before args s = true := by
  intro w hw
  by_cases g : goodWord w = true
  · exact h1 w (List.mem_filter.mpr ⟨hw, g⟩)
  · refine h3 w (h2 w (List.mem_filter.mpr ⟨hw, ?_⟩))
    show (!goodWord w) = true
    cases hgw : goodWord w
    · rfl
    · exact absurd hgw g
theorem vx_c {args : Array Value} {s : State} {w : Cond} {B : List Cond} (h : w.before args s = true) (t : ∀ w ∈ B, w.before args s = true) : ∀ w' ∈ w :: B, w'.before args s = true := fun w' h' => (List.mem_cons.mp h').elim (fun e => by rw [e]; exact h) (t w')
theorem vx_n {args : Array Value} {s : State} : ∀ w ∈ ([] : List Cond), w.before args s = true := fun _ h => nomatch h
theorem vx_own {args : Array Value} {s : State} {L : List Cond} (h1 : ∀ w ∈ L.filter vx_no, w.before args s = true)
    (hU : (Cond.isRef (.static Bundle.tN "UNASSIGNED_STACK" Bundle.steD)).before args s = true) (hN : (Cond.isRef (.static Bundle.tN "SUPPRESSED_SENTINEL" Bundle.listD)).before args s = true)
    (lU : (Cond.laysStatic Bundle.tN "UNASSIGNED_STACK" Bundle.steD).before args s = true) (lN : (Cond.laysStatic Bundle.tN "SUPPRESSED_SENTINEL" Bundle.listD).before args s = true) : ∀ w ∈ L, w.before args s = true := by
  intro w hw
  by_cases e1 : w = .isRef (.static Bundle.tN "UNASSIGNED_STACK" Bundle.steD)
  · rw [e1]; exact hU
  · by_cases e2 : w = .isRef (.static Bundle.tN "SUPPRESSED_SENTINEL" Bundle.listD)
    · rw [e2]; exact hN
    · by_cases e3 : w = .laysStatic Bundle.tN "UNASSIGNED_STACK" Bundle.steD
      · rw [e3]; exact lU
      · by_cases e4 : w = .laysStatic Bundle.tN "SUPPRESSED_SENTINEL" Bundle.listD
        · rw [e4]; exact lN
        · exact h1 w (List.mem_filter.mpr ⟨hw, by unfold vx_no; rw [decide_eq_true e1, decide_eq_true e2, decide_eq_true e3, decide_eq_true e4]; rfl⟩)
/-- where a static field lies, its class's statics cell in H -/
def vx_L (C n d : String) (A : Nat → Prop) (U : State) (H : Heap) : Prop := ∃ (c : ClassId) (k : Class) (i : Nat) (f : Field) (a : Nat) (cell : Cell), U.vm.findClass C = some c ∧ U.fieldFound? C n d = some (c, k, i, f) ∧ f.isStatic = true ∧ k.statics = some a ∧ H[a]? = some cell ∧ cell.vm.isStatics = true ∧ cell.cls = c ∧ f.slot < cell.slots.size ∧ k.staticTypes[f.slot]? = some f.type ∧ ¬ A a
theorem vx_L.moved {C n d : String} {A : Nat → Prop} {u U : State} {H : Heap} (hvm : u.vm.Alike U.vm) (h : vx_L C n d A u H) : vx_L C n d A U H := by
  obtain ⟨c, k, i, f, a, cell, h1, h2, h3, h4, h5, h6, h7, h8, h9, h10⟩ := h
  obtain ⟨k', hi', he⟩ := State.fieldFound?_setVm hvm h2
  exact ⟨c, k', i, f, a, cell, by rw [hvm.findClass]; exact h1, hi', h3, by rw [he]; exact h4, h5, h6, h7, h8, by rw [he]; exact h9, h10⟩
theorem vx_L.kept {C n d : String} {A : Nat → Prop} {U : State} {H H1 : Heap} (h : vx_L C n d A U H) (hq : ∀ a : Nat, a < H.size → ¬ A a → H1[a]? = H[a]?) : vx_L C n d A U H1 := by
  obtain ⟨c, k, i, f, a, cell, h1, h2, h3, h4, h5, h6, h7, h8, h9, h10⟩ := h
  exact ⟨c, k, i, f, a, cell, h1, h2, h3, h4, by rw [hq a (Array.getElem?_eq_some_iff.mp h5).1 h10]; exact h5, h6, h7, h8, h9, h10⟩
theorem vx_L.narrow {C n d : String} {A B : Nat → Prop} {U : State} {H : Heap} (h : vx_L C n d A U H) (hAB : ∀ q, B q → A q) : vx_L C n d B U H := by
  obtain ⟨c, k, i, f, a, cell, h1, h2, h3, h4, h5, h6, h7, h8, h9, h10⟩ := h
  exact ⟨c, k, i, f, a, cell, h1, h2, h3, h4, h5, h6, h7, h8, h9, fun z => h10 (hAB _ z)⟩
theorem vx_L.word {C n d : String} {A : Nat → Prop} {s : State} {args : Array Value} (h : vx_L C n d A s s.heap) : (Cond.laysStatic C n d).before args s = true := by
  obtain ⟨c, k, i, f, a, cell, h1, h2, h3, h4, h5, h6, h7, h8, h9, -⟩ := h
  show (Cond.laysStatic C n d).holds args s none s [] = true
  exact Cond.laysStatic_of h1 h2 h3 h4 h5 h6 h7 h8 h9
/-- .. and what it holds: null or some reference -/
def vx_Zq (C n d : String) (A : Nat → Prop) (U : State) (H : Heap) : Prop := va_Zq C n d A U H ∧ vx_L C n d A U H
theorem vx_Zq.moved {C n d : String} {A : Nat → Prop} {u U : State} {H : Heap} (hvm : u.vm.Alike U.vm) (h : vx_Zq C n d A u H) : vx_Zq C n d A U H := ⟨va_Zq.moved hvm h.1, vx_L.moved hvm h.2⟩
theorem vx_Zq.kept {C n d : String} {A : Nat → Prop} {U : State} {H H1 : Heap} (h : vx_Zq C n d A U H) (hq : ∀ a : Nat, a < H.size → ¬ A a → H1[a]? = H[a]?) : vx_Zq C n d A U H1 := ⟨va_Zq.kept h.1 hq, vx_L.kept h.2 hq⟩
theorem vx_Zq.narrow {C n d : String} {A B : Nat → Prop} {U : State} {H : Heap} (h : vx_Zq C n d A U H) (hAB : ∀ q, B q → A q) : vx_Zq C n d B U H := ⟨va_Zq.narrow h.1 hAB, vx_L.narrow h.2 hAB⟩
theorem vx_Zqof {args : Array Value} {s : State} {C n d : String} {A : Nat → Prop} (hl : (Cond.laysStatic C n d).before args s = true) (hini : (Cond.initialized C).before args s = true) (h : (Cond.isRef (.static C n d)).before args s = true) (hA : ∀ a : Nat, a < s.heap.size → ¬ A a) : vx_Zq C n d A s s.heap := by
  refine ⟨va_Zqof hl hini h hA, ?_⟩
  obtain ⟨c, k, i, f, a, cell, h1, h2, h3, h4, h5, h6, h7, h8, h9⟩ := Cond.laysStatic_spec hl
  exact ⟨c, k, i, f, a, cell, h1, h2, h3, h4, h5, h6, h7, h8, h9, hA a (Array.getElem?_eq_some_iff.mp h5).1⟩
theorem vx_isRef {C n d : String} {v : Value} {A : Nat → Prop} {s : State} {args : Array Value} (h : va_Z C n d v A s s.heap) (hv : v.isRef = true) : (Cond.isRef (.static C n d)).before args s = true := by
  obtain ⟨cf, kf, fi, f, a, cell, h1, h2, h3, h4, h5, h6, h7, -⟩ := h
  have he : (Term.static C n d).eval args s none [] s = some v := by
    simp [Term.eval, State.fieldNamed?, h1, h2, h4, h5, h6, h7]
  simp only [Cond.before, Cond.holds, Cond.value, he]
  cases v <;> simp_all [Value.isRef]
theorem vx_isRefq {C n d : String} {A : Nat → Prop} {s : State} {args : Array Value} (h : va_Zq C n d A s s.heap) : (Cond.isRef (.static C n d)).before args s = true := by
  rcases h with h | ⟨t, h⟩
  · exact vx_isRef h rfl
  · exact vx_isRef h rfl
/-- the same frame, seen from here: as if the method were called anew in this heap -/
theorem vx_rebase {T : State} (X : Stand p l e R s m args below meth c T locs cells slots) {R' : Room} (hf : R'.frames ≤ R.frames) (hl : R'.locals ≤ R.locals) (hc : cells + R'.cells ≤ R.cells) (hs : slots + R'.slots ≤ R.slots) :
    Stand p l e R' ((T.setVm s.vm).setFrames (.invoking m args :: below)) m args below meth c T [] 0 0 := by
  have htop : (T.setVm s.vm).topJava?.isSome := X.here.top
  have hF : ((T.setVm s.vm).setFrames (.invoking m args :: below)).frames = .invoking m args :: below := State.frames_setFrames _ (State.cur_lt_of_top htop)
  obtain ⟨g₀, hg0⟩ := Option.isSome_iff_exists.mp htop
  obtain ⟨r, hr⟩ := State.topJava?_eq_some.mp hg0
  have hl9 : e.platform.stackLimits (T.setVm s.vm).me = e.platform.stackLimits s.me := X.limits
  have hb9 : (T.setVm s.vm).me.stackBytes = s.me.stackBytes := X.bytes
  refine ⟨X.admits, X.cas, X.clock, hF, ?_, X.hears, X.method, X.code, X.here, X.tail, X.warmed, ?_, ?_, ?_⟩
  · have h := X.room
    have hU : ((T.setVm s.vm).setFrames (.invoking m args :: below)).localsInUse = s.localsInUse := by
      rw [State.localsInUse_invoking hF (meth := meth) (c := c) X.method X.code, State.localsInUse_invoking X.frames X.method X.code]
    simp only [State.hasRoom, Bool.and_eq_true, decide_eq_true_eq] at h ⊢
    obtain ⟨⟨⟨⟨h1, h2, h3, h4, h5, h6⟩, h7⟩, h8⟩, h9⟩ := h
    rw [X.frames, List.length_cons] at h2 h3
    have q1 := X.heapSize
    have q2 := X.used
    simp only [hF, hU, List.length_cons, State.stackLimits_setFrames, State.stackBytes_setFrames, hl9, hb9]
    refine ⟨⟨⟨⟨by omega, by omega, by omega, by omega, by omega, h6⟩, ?_⟩, ?_⟩, X.book⟩
    · show T.heap.size + R'.cells ≤ e.platform.maxCells
      omega
    · show T.slotsUsed + R'.slots ≤ e.platform.maxSlots
      omega
  · rw [State.stackLimits_setFrames]; rfl
  · rw [State.stackBytes_setFrames]; rfl
  · refine ⟨?_, Nat.le_refl _, Nat.le_refl _, ?_, ?_, fun a c9 h9 => ⟨c9, h9, rfl, rfl, fun _ _ => rfl⟩⟩
    · obtain ⟨t, ht, -⟩ := State.frames_cons hr
      show T.setVm s.vm = { ((T.setVm s.vm).setFrames (.invoking m args :: below)).setFrames (T.setVm s.vm).frames with heap := T.heap, slotsUsed := T.slotsUsed }
      rw [State.setFrames_setFrames, State.setFrames_self ht]
      rfl
    · show T.slotsUsed = T.slotsUsed + ((T.heap.toList.drop T.heap.size).map (·.slots.size)).sum
      rw [List.drop_eq_nil_of_le (Nat.le_of_eq Array.length_toList)]
      rfl
    · show ((T.heap.toList.drop T.heap.size).map (·.slots.size)).sum ≤ 0
      rw [List.drop_eq_nil_of_le (Nat.le_of_eq Array.length_toList)]
      exact Nat.le_refl _
/-- 'throw new E()': new; dup; invokespecial; athrow -/
theorem vx_throw0 {cc : ByteArray} {pc : Nat} (hexec : p.tables.exec = Jvm.exec) (hb : c.code = cc) (hl : l.stackTraces = false) {own cls : String} {names : List String} {ik ic mc ms : Nat} {A : Nat → Prop}
    (hown : s.vm.findClass own = some m.cls) (hcls : Bundle.fit cls = true) (hnames : ∀ n ∈ names, Bundle.fit n = true)
    (hk : (Cond.classLink own ik cls).before args s = true) (hini : (Cond.initialized cls).before args s = true) (hat : ∀ w ∈ vx_at0 own ic cls names, w.before args s = true)
    (hgood : ∀ w ∈ Cond.classLink own ik cls :: Cond.initialized cls :: vx_at0 own ic cls names, vx_ot w = true)
    (hU : vx_Zq Bundle.tN "UNASSIGNED_STACK" Bundle.steD A s s.heap) (hN : vx_Zq Bundle.tN "SUPPRESSED_SENTINEL" Bundle.listD A s s.heap) (hS : va_S A s.heap H locs) (hsize : ls.size = c.maxLocals)
    (d0 : decode cc pc = .ok (.new ik, 3)) (d3 : decode cc (pc + 3) = .ok (.dup, 1)) (d4 : decode cc (pc + 4) = .ok (.invokespecial ic, 3)) (d7 : decode cc (pc + 7) = .ok (.athrow, 1))
    (hout : ∀ x ∈ c.exceptionTable.toList, covers x (pc + 7) = false)
    (hRframes : names.length + 3 < R.frames) (hRlocals : (rest.map fun v => v.category).sum + (13 * (names.length + 1) + 42) ≤ R.locals) (hRcells : cells + 1 ≤ R.cells) (hRslots : slots + 6 ≤ R.slots) (hlocks : meth.locks = false)
    (hx : ∀ t : State, s.vm.Alike t.vm → H.size ≤ t.heap.size → (∀ q : Nat, q < H.size → t.heap[q]? = H[q]?) → XC cls s t)
    (hf : ∀ z ∈ locs, free z.base) (hc : cells + 1 ≤ mc) (hs : slots + 6 ≤ ms) :
    W p l e R s m args below meth c H locs cells slots (vx_MQ below Qc XC args s mc ms free) (F0 m pc ls rest) := by
  intro T hT X
  have htr : e.platform.stackTraces = false := (show e.platform.stackTraces = l.stackTraces by rw [X.admits.platform]).trans hl
  have Y := vx_rebase X (R' := { frames := R.frames, locals := R.locals, cells := 1, slots := 6 }) (Nat.le_refl _) (Nat.le_refl _) hRcells hRslots
  obtain ⟨s', hA⟩ : ∃ z, z = (T.setVm s.vm).setFrames (.invoking m args :: below) := ⟨_, rfl⟩
  rw [← hA] at Y
  have hvm : s'.vm = s.vm := by rw [hA]; rfl
  have hhp : s'.heap = H := by rw [hA]; exact hT
  have hW0 : s.WarmedH s'.vm := by rw [hvm]; exact State.WarmedH.refl s
  have hat' : ∀ w ∈ vx_at0 own ic cls names, w.before args s' = true := fun w hw => vx_ot_at hW0 hvm.symm (hgood w (List.mem_cons_of_mem _ (List.mem_cons_of_mem _ hw))) (hat w hw)
  have hk' : (Cond.classLink own ik cls).before args s' = true := vx_ot_at hW0 hvm.symm (hgood _ List.mem_cons_self) hk
  have hini' : (Cond.initialized cls).before args s' = true := vx_ot_at hW0 hvm.symm (hgood _ (List.mem_cons_of_mem _ List.mem_cons_self)) hini
  have hU' : vx_Zq Bundle.tN "UNASSIGNED_STACK" Bundle.steD A s' s'.heap := by rw [hhp]; exact vx_Zq.moved hW0.alike (hU.kept hS.2.1)
  have hN' : vx_Zq Bundle.tN "SUPPRESSED_SENTINEL" Bundle.listD A s' s'.heap := by rw [hhp]; exact vx_Zq.moved hW0.alike (hN.kept hS.2.1)
  have h : ∀ w ∈ Bundle.ownAtoms0 own ic cls names, w.before args s' = true := vx_own hat' (vx_isRefq hU'.1) (vx_isRefq hN'.1) hU'.2.word hN'.2.word
  have hown' : s'.vm.findClass own = some m.cls := by rw [hvm]; exact hown
  have hins : (Cond.instantiable cls 6).before args s' = true := h _ (by simp [Bundle.ownAtoms0])
  obtain ⟨vm₁, cX, kX, hfX, hkX, -, -, X₁, st1⟩ := Y.newCold hexec (own := own) (C := cls) (index := ik) (n := 6) hown' hk' hins hini'
    (g := F0 m pc ls rest) rfl (by rw [hb]; exact d0) (Nat.le_refl _) (Nat.le_refl _)
  generalize hT1 : (T.setVm vm₁).pushCell { cls := cX, slots := kX.instanceTypes.map defaultValue, vm := .none } = T1 at X₁ st1
  have hcat : (Value.ref T.heap.size).category = 1 := rfl
  have hcellA : T1.heap[T.heap.size]? = some (freshCell cX kX) := by rw [← hT1]; exact State.heap_pushCell_size _ _
  have d3' : decode c.code (pc + 3) = .ok (.dup, 1) := by rw [hb]; exact d3
  obtain ⟨U, hsteps, hrun, hend, hW, hsame, ce, hce, hO⟩ := X₁.ctorThrow0 hexec htr (own := own) (cls := cls) (names := names) (ic := ic) hown' hcls hnames h (fun x hx => nomatch hx) hfX hkX hcellA (by rw [hhp, hT]; exact Nat.le_refl _)
    (g := { method := m, pc := pc + 4, locals := ls, stack := .ref T.heap.size :: .ref T.heap.size :: rest, locked := none }) rfl hsize rfl rfl (rest := rest) rfl
    (by rw [hb]; exact d4) (by rw [hb]; exact d7) hout hRframes (by simp only [List.map_cons, List.sum_cons, hcat]; omega) hlocks
  obtain ⟨f1, f2⟩ := vx_frame hsame
  rw [hhp] at f1 f2
  have hWs : s.WarmedH U.vm := State.WarmedH.trans hW0 hW
  have hcl : s.vm.findClass cls = some ce.cls := by
    have h9 := hO.cls
    rw [hvm] at h9
    exact h9
  have hall : s.sameButNew ({ U with vm := s.vm } : State) locs mc ms := by
    subst hA
    obtain ⟨e1, e2⟩ := hsame
    rw [State.setFrames_setFrames] at e1
    have h2 : (T.setVm s.vm).sameButNew ({ U with vm := s.vm } : State) [] (0 + 1) (0 + 6) := ⟨e1, e2⟩
    have h3 := X.same.trans h2
    rw [List.append_nil] at h3
    exact h3.mono hc hs
  refine ⟨U, ?_, .threw T.heap.size, hrun, hend, Or.inr ⟨T.heap.size, rfl, cls, ce, locs, hx U hWs.alike f1 (fun q hq => f2 q hq (fun z hz => nomatch hz)), hce, hO.vm, hcl, hWs, hall, hf⟩⟩
  refine st1 _ ?_
  show Steps p.tables e below (T1.setTop { method := m, pc := pc + 3, locals := ls, stack := .ref T.heap.size :: rest, locked := none }) _
  jvm_step X₁.here [X₁.here.top, hexec, d3', Value.category]
  exact hsteps
/-- 'throw new E("text")': new; dup; ldc; invokespecial; athrow -/
theorem vx_throwS {cc : ByteArray} {pc : Nat} (hexec : p.tables.exec = Jvm.exec) (hb : c.code = cc) (hl : l.stackTraces = false) {own cls text : String} {names : List String} {ik is ic mc ms sa : Nat} {A : Nat → Prop}
    (hown : s.vm.findClass own = some m.cls) (hcls : Bundle.fit cls = true) (hnames : ∀ n ∈ names, Bundle.fit n = true)
    (hk : (Cond.classLink own ik cls).before args s = true) (hini : (Cond.initialized cls).before args s = true) (hstr : vk_R own is text sa s) (hat : ∀ w ∈ vx_atS own ic cls names, w.before args s = true)
    (hgood : ∀ w ∈ Cond.classLink own ik cls :: Cond.initialized cls :: vx_atS own ic cls names, vx_ot w = true)
    (hU : vx_Zq Bundle.tN "UNASSIGNED_STACK" Bundle.steD A s s.heap) (hN : vx_Zq Bundle.tN "SUPPRESSED_SENTINEL" Bundle.listD A s s.heap) (hS : va_S A s.heap H locs) (hsize : ls.size = c.maxLocals)
    (d0 : decode cc pc = .ok (.new ik, 3)) (d3 : decode cc (pc + 3) = .ok (.dup, 1)) (d4 : decode cc (pc + 4) = .ok (.ldc is, 2)) (d6 : decode cc (pc + 6) = .ok (.invokespecial ic, 3)) (d9 : decode cc (pc + 9) = .ok (.athrow, 1))
    (hout : ∀ x ∈ c.exceptionTable.toList, covers x (pc + 9) = false)
    (hRframes : names.length + 3 < R.frames) (hRlocals : (rest.map fun v => v.category).sum + (13 * (names.length + 1) + 43) ≤ R.locals) (hRcells : cells + 1 ≤ R.cells) (hRslots : slots + 6 ≤ R.slots) (hlocks : meth.locks = false)
    (hx : ∀ t : State, s.vm.Alike t.vm → H.size ≤ t.heap.size → (∀ q : Nat, q < H.size → t.heap[q]? = H[q]?) → XC cls s t)
    (hf : ∀ z ∈ locs, free z.base) (hc : cells + 1 ≤ mc) (hs : slots + 6 ≤ ms) :
    W p l e R s m args below meth c H locs cells slots (vx_MQ below Qc XC args s mc ms free) (F0 m pc ls rest) := by
  intro T hT X
  have htr : e.platform.stackTraces = false := (show e.platform.stackTraces = l.stackTraces by rw [X.admits.platform]).trans hl
  have Y := vx_rebase X (R' := { frames := R.frames, locals := R.locals, cells := 1, slots := 6 }) (Nat.le_refl _) (Nat.le_refl _) hRcells hRslots
  obtain ⟨s', hA⟩ : ∃ z, z = (T.setVm s.vm).setFrames (.invoking m args :: below) := ⟨_, rfl⟩
  rw [← hA] at Y
  have hvm : s'.vm = s.vm := by rw [hA]; rfl
  have hhp : s'.heap = H := by rw [hA]; exact hT
  have hW0 : s.WarmedH s'.vm := by rw [hvm]; exact State.WarmedH.refl s
  have hat' : ∀ w ∈ vx_atS own ic cls names, w.before args s' = true := fun w hw => vx_ot_at hW0 hvm.symm (hgood w (List.mem_cons_of_mem _ (List.mem_cons_of_mem _ hw))) (hat w hw)
  have hk' : (Cond.classLink own ik cls).before args s' = true := vx_ot_at hW0 hvm.symm (hgood _ List.mem_cons_self) hk
  have hini' : (Cond.initialized cls).before args s' = true := vx_ot_at hW0 hvm.symm (hgood _ (List.mem_cons_of_mem _ List.mem_cons_self)) hini
  have hU' : vx_Zq Bundle.tN "UNASSIGNED_STACK" Bundle.steD A s' s'.heap := by rw [hhp]; exact vx_Zq.moved hW0.alike (hU.kept hS.2.1)
  have hN' : vx_Zq Bundle.tN "SUPPRESSED_SENTINEL" Bundle.listD A s' s'.heap := by rw [hhp]; exact vx_Zq.moved hW0.alike (hN.kept hS.2.1)
  have h : ∀ w ∈ Bundle.ownAtoms own ic cls names, w.before args s' = true := vx_own hat' (vx_isRefq hU'.1) (vx_isRefq hN'.1) hU'.2.word hN'.2.word
  have hown' : s'.vm.findClass own = some m.cls := by rw [hvm]; exact hown
  have hins : (Cond.instantiable cls 6).before args s' = true := h _ (by simp [Bundle.ownAtoms])
  obtain ⟨vm₁, cX, kX, hfX, hkX, -, -, X₁, st1⟩ := Y.newCold hexec (own := own) (C := cls) (index := ik) (n := 6) hown' hk' hins hini'
    (g := F0 m pc ls rest) rfl (by rw [hb]; exact d0) (Nat.le_refl _) (Nat.le_refl _)
  generalize hT1 : (T.setVm vm₁).pushCell { cls := cX, slots := kX.instanceTypes.map defaultValue, vm := .none } = T1 at X₁ st1
  have hcat : (Value.ref T.heap.size).category = 1 := rfl
  have hcellA : T1.heap[T.heap.size]? = some (freshCell cX kX) := by rw [← hT1]; exact State.heap_pushCell_size _ _
  have d3' : decode c.code (pc + 3) = .ok (.dup, 1) := by rw [hb]; exact d3
  have d4' : decode c.code (pc + 4) = .ok (.ldc is, 2) := by rw [hb]; exact d4
  have hstr' : vk_R own is text sa s' := vk_R.warm hW0 hstr
  obtain ⟨U, hsteps, hrun, hend, hW, hsame, ce, hce, hO⟩ := X₁.ctorThrowS hexec htr (own := own) (cls := cls) (names := names) (ic := ic) hown' hcls hnames h (fun x hx => nomatch hx) hfX hkX hcellA (by rw [hhp, hT]; exact Nat.le_refl _) (msg := .ref sa) rfl
    (g := { method := m, pc := pc + 6, locals := ls, stack := .ref sa :: .ref T.heap.size :: .ref T.heap.size :: rest, locked := none }) rfl hsize rfl rfl (rest := rest) rfl
    (by rw [hb]; exact d6) (by rw [hb]; exact d9) hout hRframes (by simp only [List.map_cons, List.sum_cons, hcat]; omega) hlocks
  obtain ⟨f1, f2⟩ := vx_frame hsame
  rw [hhp] at f1 f2
  have hWs : s.WarmedH U.vm := State.WarmedH.trans hW0 hW
  have hcl : s.vm.findClass cls = some ce.cls := by
    have h9 := hO.cls
    rw [hvm] at h9
    exact h9
  have hall : s.sameButNew ({ U with vm := s.vm } : State) locs mc ms := by
    subst hA
    obtain ⟨e1, e2⟩ := hsame
    rw [State.setFrames_setFrames] at e1
    have h2 : (T.setVm s.vm).sameButNew ({ U with vm := s.vm } : State) [] (0 + 1) (0 + 6) := ⟨e1, e2⟩
    have h3 := X.same.trans h2
    rw [List.append_nil] at h3
    exact h3.mono hc hs
  refine ⟨U, ?_, .threw T.heap.size, hrun, hend, Or.inr ⟨T.heap.size, rfl, cls, ce, locs, hx U hWs.alike f1 (fun q hq => f2 q hq (fun z hz => nomatch hz)), hce, hO.vm, hcl, hWs, hall, hf⟩⟩
  refine st1 _ ?_
  show Steps p.tables e below (T1.setTop { method := m, pc := pc + 3, locals := ls, stack := .ref T.heap.size :: rest, locked := none }) _
  jvm_step X₁.here [X₁.here.top, hexec, d3', Value.category]
  exact X₁.ldcString hexec (own := own) (text := text) (index := is) (a := sa) hown' hstr'.1 hstr'.2
    (g := { method := m, pc := pc + 4, locals := ls, stack := .ref T.heap.size :: .ref T.heap.size :: rest, locked := none }) rfl d4' _ hsteps
/-- 'throw new E("text")', the text by a wide index -/
theorem vx_throwSW {cc : ByteArray} {pc : Nat} (hexec : p.tables.exec = Jvm.exec) (hb : c.code = cc) (hl : l.stackTraces = false) {own cls text : String} {names : List String} {ik is ic mc ms sa : Nat} {A : Nat → Prop}
    (hown : s.vm.findClass own = some m.cls) (hcls : Bundle.fit cls = true) (hnames : ∀ n ∈ names, Bundle.fit n = true)
    (hk : (Cond.classLink own ik cls).before args s = true) (hini : (Cond.initialized cls).before args s = true) (hstr : vk_R own is text sa s) (hat : ∀ w ∈ vx_atS own ic cls names, w.before args s = true)
    (hgood : ∀ w ∈ Cond.classLink own ik cls :: Cond.initialized cls :: vx_atS own ic cls names, vx_ot w = true)
    (hU : vx_Zq Bundle.tN "UNASSIGNED_STACK" Bundle.steD A s s.heap) (hN : vx_Zq Bundle.tN "SUPPRESSED_SENTINEL" Bundle.listD A s s.heap) (hS : va_S A s.heap H locs) (hsize : ls.size = c.maxLocals)
    (d0 : decode cc pc = .ok (.new ik, 3)) (d3 : decode cc (pc + 3) = .ok (.dup, 1)) (d4 : decode cc (pc + 4) = .ok (.ldc_w is, 3)) (d7 : decode cc (pc + 7) = .ok (.invokespecial ic, 3)) (d10 : decode cc (pc + 10) = .ok (.athrow, 1))
    (hout : ∀ x ∈ c.exceptionTable.toList, covers x (pc + 10) = false)
    (hRframes : names.length + 3 < R.frames) (hRlocals : (rest.map fun v => v.category).sum + (13 * (names.length + 1) + 43) ≤ R.locals) (hRcells : cells + 1 ≤ R.cells) (hRslots : slots + 6 ≤ R.slots) (hlocks : meth.locks = false)
    (hx : ∀ t : State, s.vm.Alike t.vm → H.size ≤ t.heap.size → (∀ q : Nat, q < H.size → t.heap[q]? = H[q]?) → XC cls s t)
    (hf : ∀ z ∈ locs, free z.base) (hc : cells + 1 ≤ mc) (hs : slots + 6 ≤ ms) :
    W p l e R s m args below meth c H locs cells slots (vx_MQ below Qc XC args s mc ms free) (F0 m pc ls rest) := by
  intro T hT X
  have htr : e.platform.stackTraces = false := (show e.platform.stackTraces = l.stackTraces by rw [X.admits.platform]).trans hl
  have Y := vx_rebase X (R' := { frames := R.frames, locals := R.locals, cells := 1, slots := 6 }) (Nat.le_refl _) (Nat.le_refl _) hRcells hRslots
  obtain ⟨s', hA⟩ : ∃ z, z = (T.setVm s.vm).setFrames (.invoking m args :: below) := ⟨_, rfl⟩
  rw [← hA] at Y
  have hvm : s'.vm = s.vm := by rw [hA]; rfl
  have hhp : s'.heap = H := by rw [hA]; exact hT
  have hW0 : s.WarmedH s'.vm := by rw [hvm]; exact State.WarmedH.refl s
  have hat' : ∀ w ∈ vx_atS own ic cls names, w.before args s' = true := fun w hw => vx_ot_at hW0 hvm.symm (hgood w (List.mem_cons_of_mem _ (List.mem_cons_of_mem _ hw))) (hat w hw)
  have hk' : (Cond.classLink own ik cls).before args s' = true := vx_ot_at hW0 hvm.symm (hgood _ List.mem_cons_self) hk
  have hini' : (Cond.initialized cls).before args s' = true := vx_ot_at hW0 hvm.symm (hgood _ (List.mem_cons_of_mem _ List.mem_cons_self)) hini
  have hU' : vx_Zq Bundle.tN "UNASSIGNED_STACK" Bundle.steD A s' s'.heap := by rw [hhp]; exact vx_Zq.moved hW0.alike (hU.kept hS.2.1)
  have hN' : vx_Zq Bundle.tN "SUPPRESSED_SENTINEL" Bundle.listD A s' s'.heap := by rw [hhp]; exact vx_Zq.moved hW0.alike (hN.kept hS.2.1)
  have h : ∀ w ∈ Bundle.ownAtoms own ic cls names, w.before args s' = true := vx_own hat' (vx_isRefq hU'.1) (vx_isRefq hN'.1) hU'.2.word hN'.2.word
  have hown' : s'.vm.findClass own = some m.cls := by rw [hvm]; exact hown
  have hins : (Cond.instantiable cls 6).before args s' = true := h _ (by simp [Bundle.ownAtoms])
  obtain ⟨vm₁, cX, kX, hfX, hkX, -, -, X₁, st1⟩ := Y.newCold hexec (own := own) (C := cls) (index := ik) (n := 6) hown' hk' hins hini'
    (g := F0 m pc ls rest) rfl (by rw [hb]; exact d0) (Nat.le_refl _) (Nat.le_refl _)
  generalize hT1 : (T.setVm vm₁).pushCell { cls := cX, slots := kX.instanceTypes.map defaultValue, vm := .none } = T1 at X₁ st1
  have hcat : (Value.ref T.heap.size).category = 1 := rfl
  have hcellA : T1.heap[T.heap.size]? = some (freshCell cX kX) := by rw [← hT1]; exact State.heap_pushCell_size _ _
  have d3' : decode c.code (pc + 3) = .ok (.dup, 1) := by rw [hb]; exact d3
  have d4' : decode c.code (pc + 4) = .ok (.ldc_w is, 3) := by rw [hb]; exact d4
  have hstr' : vk_R own is text sa s' := vk_R.warm hW0 hstr
  obtain ⟨U, hsteps, hrun, hend, hW, hsame, ce, hce, hO⟩ := X₁.ctorThrowS hexec htr (own := own) (cls := cls) (names := names) (ic := ic) hown' hcls hnames h (fun x hx => nomatch hx) hfX hkX hcellA (by rw [hhp, hT]; exact Nat.le_refl _) (msg := .ref sa) rfl
    (g := { method := m, pc := pc + 7, locals := ls, stack := .ref sa :: .ref T.heap.size :: .ref T.heap.size :: rest, locked := none }) rfl hsize rfl rfl (rest := rest) rfl
    (by rw [hb]; exact d7) (by rw [hb]; exact d10) hout hRframes (by simp only [List.map_cons, List.sum_cons, hcat]; omega) hlocks
  obtain ⟨f1, f2⟩ := vx_frame hsame
  rw [hhp] at f1 f2
  have hWs : s.WarmedH U.vm := State.WarmedH.trans hW0 hW
  have hcl : s.vm.findClass cls = some ce.cls := by
    have h9 := hO.cls
    rw [hvm] at h9
    exact h9
  have hall : s.sameButNew ({ U with vm := s.vm } : State) locs mc ms := by
    subst hA
    obtain ⟨e1, e2⟩ := hsame
    rw [State.setFrames_setFrames] at e1
    have h2 : (T.setVm s.vm).sameButNew ({ U with vm := s.vm } : State) [] (0 + 1) (0 + 6) := ⟨e1, e2⟩
    have h3 := X.same.trans h2
    rw [List.append_nil] at h3
    exact h3.mono hc hs
  refine ⟨U, ?_, .threw T.heap.size, hrun, hend, Or.inr ⟨T.heap.size, rfl, cls, ce, locs, hx U hWs.alike f1 (fun q hq => f2 q hq (fun z hz => nomatch hz)), hce, hO.vm, hcl, hWs, hall, hf⟩⟩
  refine st1 _ ?_
  show Steps p.tables e below (T1.setTop { method := m, pc := pc + 3, locals := ls, stack := .ref T.heap.size :: rest, locked := none }) _
  jvm_step X₁.here [X₁.here.top, hexec, d3', Value.category]
  exact X₁.ldcStringW hexec (own := own) (text := text) (index := is) (a := sa) hown' hstr'.1 hstr'.2
    (g := { method := m, pc := pc + 4, locals := ls, stack := .ref T.heap.size :: .ref T.heap.size :: rest, locked := none }) rfl d4' _ hsteps
end Ends
section Bodies
variable {l : Launch}
theorem vx_ofW {y : MethodName} {ws ws' : List Cond} {rm : Room} {Pc : Array Value → State → Prop} {Qc : Array Value → State → Outcome → State → Prop} {XC : String → State → State → Prop} {mc ms : Nat} {free : Addr → Prop} {cc : ByteArray} {maxL : Nat} {ret : Option FieldType}
    (hy : plainName y.cls = true) (hw : ws = Cond.code y cc maxL ret :: ws')
    (body : ∀ p e s m args below meth c s₁, BodyLoose p l y (headSpec ws rm) cc maxL ret e s m args below meth c s₁ → c.maxLocals = maxL → (∀ x ∈ c.exceptionTable.toList, False) → Pc args s →
      W p l e (headSpec ws rm).room s m args below meth c s.heap [] 0 0 (vx_MQ below Qc XC args s mc ms free) (entryFrame m args maxL)) : vx_Met l y ws rm Pc Qc XC mc ms free := by
  refine MetFree.of_bodyS (code := cc) (maxLocals := maxL) (ret := ret) hy ?_ ?_
  · intro args s m h hn
    obtain ⟨meth, c, h1, h2, h3, h4, h5, h6, -, -⟩ := Cond.code_spec hn (atoms_spec (ws := ws) h _ (by rw [hw]; exact List.mem_cons_self))
    exact ⟨meth, c, h1, h2, h3, h4, h5, h6⟩
  · intro p e s m args below meth c s₁ B hml hP _
    have hh0 : s₁.heap = s.heap := by rw [B.state]; rfl
    have ht : ∀ x ∈ c.exceptionTable.toList, False := by
      obtain ⟨meth9, c9, h1, h2, -, -, -, -, h7, -⟩ := Cond.code_spec B.named (atoms_spec (ws := ws) B.pre _ (by rw [hw]; exact List.mem_cons_self))
      cases Option.some.inj (h1.symm.trans B.method)
      cases Option.some.inj (h2.symm.trans (Stand.of_body B).code)
      intro x hx
      rw [Array.isEmpty_iff.mp h7] at hx
      cases hx
    obtain ⟨t, a1, o, b1, b2, b3⟩ := body p e s m args below meth c s₁ B hml ht hP s₁ hh0 (Stand.of_body B)
    exact ⟨t, o, a1, b1, b2, b3⟩
/-- the table of a body with handlers -/
theorem vx_table {p : Program} {x y : MethodName} {S : Spec} {cc bytes : ByteArray} {maxL maxL' : Nat} {ret ret' : Option FieldType} {e : Env} {s s₁ : State} {m : MethodId} {args : Array Value} {below : List Frame} {meth : Method} {c : Code} {hh : List (Nat × Nat × Nat × Nat)}
    (B : BodyLoose p l y S cc maxL ret e s m args below meth c s₁) (h : (Cond.codeWith y bytes maxL' ret' hh).before args s = true) : c.exceptionTable.toList = tableOf hh := by
  obtain ⟨m9, meth9, c9, hn9, h1, h2, -, -, h6, -⟩ := Cond.codeWith_spec h
  cases Option.some.inj (hn9.symm.trans B.named)
  cases Option.some.inj (h1.symm.trans B.method)
  cases Option.some.inj (h2.symm.trans (Stand.of_body B).code)
  rw [← h6, table_eq]
end Bodies
end VXA
/-! ===== END ===== -/
/-! ===== BEGIN a static call of a method with an exception table ===== -/
section VXS
variable {p : Program} {l : Launch} {e : Env} {R : Room} {s : State} {m : MethodId} {args : Array Value} {below : List Frame} {meth : Method} {c : Code} {T : State} {H : Heap} {locs : List Loc} {cells slots : Nat}
abbrev vx_CSW (R : Room) (s : State) (args : Array Value) (own : String) (index : Nat) (y : MethodName) (bytes : ByteArray) (maxL : Nat) (ret : Option FieldType) (hh : List (Nat × Nat × Nat × Nat)) (ws : List Cond) (rm : Room) (mc ms n : Nat) : Prop :=
  (rm.cells = mc ∧ rm.slots = ms ∧ rm.frames + 1 ≤ R.frames ∧ 8 + (maxL + 11) + rm.locals ≤ R.locals ∧ (∀ w ∈ ws, ∀ (a' : Array Value) (U : State), s.WarmedH U.vm → w.before a' U = true) ∧ Cond.codeWith y bytes maxL ret hh ∈ ws) ∧
  (Cond.codeWith y bytes maxL ret hh).before args s = true ∧ (Cond.initialized y.cls).before args s = true ∧ (y.cls ≠ "java/lang/invoke/MethodHandle" ∧ y.cls ≠ "java/lang/invoke/VarHandle") ∧
  (∀ sig, parseMethodDescriptor y.desc = some sig → n = sig.parameters.length) ∧ (Cond.methodLink own index y).before args s = true ∧ (Cond.static y).before args s = true
theorem vx_cwSW {own : String} {index maxL mc ms : Nat} {y : MethodName} {bytes : ByteArray} {ret : Option FieldType} {hh : List (Nat × Nat × Nat × Nat)} {Ts ws ws' : List Cond} {rm : Room} (n : Nat) (ht : ∀ w ∈ Ts, w.before args s = true) (hT : GoodIn Ts (va_wsS own index y ws)) (hw : ws = Cond.codeWith y bytes maxL ret hh :: ws') (hrc : rm.cells = mc) (hrs : rm.slots = ms)
    (hd : y.cls ≠ "java/lang/invoke/MethodHandle" ∧ y.cls ≠ "java/lang/invoke/VarHandle" ∧ (parseMethodDescriptor y.desc).map (fun d => d.parameters.length) = some n) (hR : rm.frames + 1 ≤ R.frames ∧ 8 + (maxL + 11) + rm.locals ≤ R.locals) :
    vx_CSW R s args own index y bytes maxL ret hh ws rm mc ms n := by
  have ok : ∀ w ∈ va_wsS own index y ws, w.before args s = true := fun w h => ht w (hT w h).1
  have hG : GoodIn Ts ws := fun w h => hT w (by unfold va_wsS; exact List.mem_append_right _ h)
  have hc : Cond.codeWith y bytes maxL ret hh ∈ ws := by rw [hw]; exact List.mem_cons_self
  refine ⟨⟨hrc, hrs, hR.1, hR.2, pay_in ht hG, hc⟩, ht _ (hG _ hc).1, ok _ (by simp [va_wsS]), ⟨hd.1, hd.2.1⟩, fun sig h => ?_, ok _ (by simp [va_wsS]), ok _ (by simp [va_wsS])⟩
  have h2 := hd.2.2
  rw [h] at h2
  exact (Option.some.inj h2).symm
theorem vx_callSW (X : Stand p l e R s m args below meth c T locs cells slots) (hexec : p.tables.exec = Jvm.exec) {own : String} {index : Nat} {y : MethodName} {bytes : ByteArray} {maxL : Nat} {ret : Option FieldType} {hh : List (Nat × Nat × Nat × Nat)}
    (hown : s.vm.findClass own = some m.cls) (hlink : (Cond.methodLink own index y).before args s = true) (hstat : (Cond.static y).before args s = true) (hinit : (Cond.initialized y.cls).before args s = true)
    (hcode : (Cond.codeWith y bytes maxL ret hh).before args s = true) (hy : y.cls ≠ "java/lang/invoke/MethodHandle" ∧ y.cls ≠ "java/lang/invoke/VarHandle")
    {W9 : Nat} {Pre : Pt → Array Value → Prop} {Post : Pt → Array Value → Option Value → Pt → Prop} (hK : Back l R p e below s args y 3 W9 Pre Post)
    {g : JFrame} (hg : g.method = m) (hsize : g.locals.size = c.maxLocals) {argsL rest : List Value} (hlen : ∀ sig, parseMethodDescriptor y.desc = some sig → argsL.length = sig.parameters.length)
    (hstack : g.stack = argsL.reverse ++ rest) (hW : 2 * g.monitorRoom + (rest.map fun v => v.category).sum ≤ W9) (hdg : decode c.code g.pc = .ok (.invokestatic index, 3))
    (hpre : ∀ vm₁, s.WarmedH vm₁ → Pre ⟨T.setVm vm₁, locs, cells, slots⟩ argsL.toArray) :
    ∃ (v : Option Value) (vm₁ : Vm) (B : Pt), s.WarmedH vm₁ ∧ Stand p l e R s m args below meth c B.U B.locs B.cells B.slots ∧ Post ⟨T.setVm vm₁, locs, cells, slots⟩ argsL.toArray v B ∧
      ∀ target, Steps p.tables e below (B.U.setTop { g with pc := g.pc + 3, stack := v.toList ++ rest }) target → Steps p.tables e below (T.setTop g) target := by
  obtain ⟨mk, methM, cM, hnamed, hmethM, -, -, -, -, -, -, hsigM⟩ := Cond.codeWith_spec hcode
  have hstatic : methM.isStatic = true := Cond.static_spec hnamed hmethM hstat
  obtain ⟨kP, hkP, -⟩ := className_of_methodNamed hnamed
  have hinitP : kP.init = .initialized := Cond.initialized_spec (findClass_of_methodNamed hnamed) hkP hinit
  obtain ⟨vm₁, X₁, hstep₁⟩ := X.invokestatic hexec hown hlink hnamed hmethM hstatic hkP hinitP hy (g := g) hg (argsL := argsL) (rest := rest) (hlen _ hsigM) hstack hdg
  obtain ⟨v, B, X', hpost, hsteps⟩ := hK m meth c ⟨T.setVm vm₁, locs, cells, slots⟩ { g with stack := rest } (.invokestatic index) mk argsL.toArray X₁ hg hsize hdg hW (X₁.named hnamed) (hpre vm₁ X₁.warmed)
  exact ⟨v, vm₁, B, X₁.warmed, X', hpost, fun target h => hstep₁ _ fun acts => by rw [doInvoke_state]; exact hsteps.trans h⟩
theorem vx_runSW {y : MethodName} {bytes cc : ByteArray} {maxL nL mc ms n index : Nat} {ret : Option FieldType} {hh : List (Nat × Nat × Nat × Nat)} {ws : List Cond} {rm : Room} {Pc : Array Value → State → Prop} {Qc : Array Value → State → Outcome → State → Prop} {free : Addr → Prop} {Ts : List Cond} {own : String} {As rest : List Value} {g : JFrame}
    (S : CallFix p m c cc nL s args Ts own) (hM : Met l y ws rm Pc Qc mc ms free) (cw : vx_CSW R s args own index y bytes maxL ret hh ws rm mc ms n) (hp : PreS s H Pc As)
    (hg : g.method = m) (hn : As.length = n) (hsize : g.locals.size = nL) (hstack : g.stack = As.reverse ++ rest) (hW : 2 * g.monitorRoom + (rest.map fun v => v.category).sum ≤ 8) (hdg : decode cc g.pc = .ok (.invokestatic index, 3)) (hf : cells + mc ≤ R.cells ∧ slots + ms ≤ R.slots) :
    va_Run p l e R s m args below meth c H locs cells slots mc ms g rest (Qc As.toArray) (free) := by
  obtain ⟨⟨hrc, hrs, hfr, hlo, hws, hcw⟩, hcode, hini, hy, hlen, hl, hstt⟩ := cw
  have hK : Back l R p e below s args y 3 8 (PreOf R mc ms Pc) (PostOf Qc mc ms free) := va_backW (hh := hh) (bytes := bytes) (maxL := maxL) (ret := ret) hM hp.1 hrc hrs hfr hlo hws hcw (fun a' U hW => word_at hW (Or.inl (by first | rfl | simp [Cond.onTables, Cond.keeps, Cond.steady])) hini)
  obtain ⟨hx, hb, hml, ho, -⟩ := S
  intro T hT X
  obtain ⟨v, vm₁, ⟨U', l2, c2, s2⟩, hW₁, X', ⟨g', mk, t, L, e1, e2, hq, h1, hL, h2, h3⟩, st⟩ := vx_callSW X hx (hh := hh) (bytes := bytes) (maxL := maxL) (ret := ret) ho hl hstt hini hcode hy hK hg (hsize.trans hml.symm) (argsL := As) (rest := rest) (fun sig h => hn.trans (hlen sig h)) hstack hW (by rw [hb]; exact hdg)
    (fun vm₁ hW₁ => ⟨hf.1, hf.2, hp.2 (T.setVm vm₁) hT hW₁⟩)
  dsimp only [Pt.U, Pt.locs, Pt.cells, Pt.slots] at X' e1 e2 h1 h2 h3 st
  subst h1; subst h2; subst h3
  exact ⟨v, (T.setVm vm₁).calling g' mk As.toArray, t, U', L, hT, X', hL, e1, e2, hq, st⟩
/-- not caught here, past rows that name other classes: it goes on to the caller -/
theorem vx_outP {p : Program} {l : Launch} {e : Env} {R : Room} {s : State} {m : MethodId} {args : Array Value} {below : List Frame} {meth : Method} {c : Code} {H : Heap} {locs : List Loc} {cells slots : Nat} {free : Addr → Prop} {ls : Array Slot} {rest : List Value} {Qc : Array Value → State → Outcome → State → Prop} {XC : String → State → State → Prop}
    {pc : Nat} {own E : String} {ce : Cell} {q : Addr} {mc ms : Nat} (hown : s.vm.findClass own = some m.cls) (hlocks : meth.locks = false)
    (hpass : ∀ z ∈ c.exceptionTable.toList, covers z pc = false ∨ (z.catchType ≠ 0 ∧ ∃ nm : String, (Cond.classLink own z.catchType nm).before args s = true ∧ va_Nc E nm s)) (hcell : H[q]? = some ce) (hv : ce.vm = .none) (hcl : s.vm.findClass E = some ce.cls)
    (hx : ∀ t : State, t.heap = H → s.vm.Alike t.vm → XC E s t) (hf : ∀ z ∈ locs, free z.base) (hc : cells ≤ mc) (hs : slots ≤ ms) :
    vx_W p l e R s m args below meth c H locs cells slots (vx_MQ below Qc XC args s mc ms free) (F0 m pc ls rest) q := by
  intro T hT X
  have hpl : e.platform.magicAccessors = ({} : Platform).magicAccessors := by rw [X.admits.platform]
  obtain ⟨vm', hW', X', st⟩ := X.outThrough hlocks q (g := F0 m pc ls rest) rfl rfl rfl (cell := ce) (by rw [hT]; exact hcell) (by rw [hv]; rfl)
    (by obtain ⟨k9, h9, -⟩ := Vm.findClass_spec hcl; exact ⟨k9, h9⟩) (fun z hz => by
      rcases hpass z hz with h | ⟨hz0, nm, hl1, hn1⟩
      · exact Or.inl h
      · obtain ⟨c6, hc6, hcl6⟩ := Cond.classLink_spec hown hl1 e.platform hpl
        obtain ⟨a8, b8, h1, h2, h3⟩ := hn1
        cases Option.some.inj (h1.symm.trans hcl)
        cases Option.some.inj (h2.symm.trans hc6)
        exact Or.inr ⟨hz0, _, hcl6, h3⟩)
  obtain ⟨g₀, hfr⟩ := X'.frames_eq
  have hcell9 : ((T.setVm vm').setFrames (.throwing q :: below)).heap[q]? = some ce := by
    show T.heap[q]? = some ce
    rw [hT]; exact hcell
  have hend : Ended ((T.setVm vm').setFrames (.throwing q :: below)) below (.threw q) := State.frames_setFrames _ (State.cur_lt_of_frames hfr)
  refine ⟨(T.setVm vm').setFrames (.throwing q :: below), ?_, .threw q, X'.here.running, hend, Or.inr ⟨q, rfl, E, ce, locs, hx _ hT (X'.ends _).1.alike, hcell9, hv, hcl, (X'.ends _).1, (X'.ends _).2.mono hc hs, hf⟩⟩
  rw [X.pushThrowing_eq]
  exact st
/-- a thing of a world lies in the heap -/
theorem vx_lt {D : va_G} {cl : List vw_C} {ws : va_W} {H1 : Heap} (h : va_P D cl ws H1) {k : Nat} {q : Nat × va_E} (hk : ws[k]? = some q) : q.1 < H1.size := (h k q hk).lt
end VXS
/-! ===== END ===== -/
/-! ===== BEGIN methods with a table of their own: called by a name, returning or throwing ===== -/
section VXH
/-! vx_backW, vx_callVX, vx_callSX, vx_callVW, vx_runVW, vx_runVX, vx_runSX, vx_ofWH follow the same proofs as their sisters above (Free/Laws.lean, Shelf42/LK1.lean); vx_outP calls Shelf42/NT130.lean (outThrough). -/
section
variable {l : Launch} {R : Room} {p : Program} {e : Env} {below : List Frame} {s : State} {sargs : Array Value} {y : MethodName} {len W9 : Nat}
theorem vx_backW {ws : List Cond} {rm : Room} {Pc : Array Value → State → Prop} {Qc : Array Value → State → Outcome → State → Prop} {XC : String → State → State → Prop} {mc ms : Nat} {free : Addr → Prop} {bytes : ByteArray} {maxL : Nat} {ret : Option FieldType} {hh : List (Nat × Nat × Nat × Nat)}
    (hM : vx_Met l y ws rm Pc Qc XC mc ms free) (hblind : FrameBlind Pc) (hrc : rm.cells = mc) (hrs : rm.slots = ms)
    (hframes : rm.frames + 1 ≤ R.frames) (hlocals : W9 + (maxL + 11) + rm.locals ≤ R.locals)
    (hws : ∀ w ∈ ws, ∀ a' U, s.WarmedH U.vm → w.before a' U = true) (hcode : Cond.codeWith y bytes maxL ret hh ∈ ws) (hinit : ∀ a' U, s.WarmedH U.vm → (Cond.initialized y.cls).before a' U = true) :
    vx_Back l R p e below s sargs y len W9 (PreOf R mc ms Pc) (PostOf Qc mc ms free) (vx_Post XC mc ms free) := by
  intro m meth c A g ig mk a X hg hsize hdg hW hn hp
  have h1 : (headSpec ws rm).pre.before a A.U = true := atoms_intro fun w hw => hws w hw _ _ X.warmed
  have h2 : (Cond.codeWith y bytes maxL ret hh).before a A.U = true := hws _ hcode _ _ X.warmed
  have h3 : (Cond.initialized y.cls).before a A.U = true := hinit _ _ X.warmed
  have h4 : A.cells + (headSpec ws rm).room.cells ≤ R.cells := by rw [show (headSpec ws rm).room.cells = mc from hrc]; exact hp.1
  have h5 : A.slots + (headSpec ws rm).room.slots ≤ R.slots := by rw [show (headSpec ws rm).room.slots = ms from hrs]; exact hp.2.1
  have hPc : Pc a (A.U.calling g mk a) := hblind _ _ _ _ hp.2.2
  obtain ⟨U, Ls, c0, s0⟩ := A
  dsimp only [Pt.U, Pt.locs, Pt.cells, Pt.slots] at h1 h2 h3 h4 h5 X hn hPc ⊢
  obtain ⟨m9, methY, cY, hn9, hmY, hcY, -, hlY, -⟩ := Cond.codeWith_spec h2
  cases Option.some.inj (hn9.symm.trans hn)
  obtain ⟨kY, hkY, -⟩ := className_of_methodNamed hn
  have hinitY : kY.init = .initialized := Cond.initialized_spec (findClass_of_methodNamed hn) hkY h3
  have h : At U g.method c below := by rw [hg]; exact X.here
  have hlocals9 : W9 + (maxL + 11) + (headSpec ws rm).room.locals ≤ R.locals := hlocals
  have happ : (headSpec ws rm).appliesLoose y e.platform (U.calling g mk a) = true :=
    Spec.appliesLoose_calling (g := g) h hdg hn hkY hinitY
      (X.room_calling (g := g) (R' := (headSpec ws rm).room) hsize hmY hcY hframes (by rw [hlY]; omega) h4 h5) h1
  obtain ⟨mid, hmid⟩ := h.above
  have hfr : (U.setTop g).frames = (.java g :: mid) ++ below := by rw [State.frames_setTop' g h.top, hmid]; rfl
  obtain ⟨o, s₂, hsteps, -, hend, hq⟩ := Steps.callFree hM p X.admits X.cas X.clock (acts := []) hfr happ hPc trivial
  have hq' : vx_Q Qc XC mc ms free a (U.calling g mk a) o s₂ := hq
  rw [State.frames_setTop' g h.top] at hend
  obtain ⟨g₀, hg0⟩ := Option.isSome_iff_exists.mp h.top
  obtain ⟨r, hr⟩ := State.topJava?_eq_some.mp hg0
  have hr' : (({ U with heap := s₂.heap, slotsUsed := s₂.slotsUsed } : State).setVm s₂.vm).frames = .java g₀ :: r := hr
  rcases hq' with ⟨hqc, L, hfe, hL⟩ | ⟨q, rfl, E, ce, L, hx, hce, hcv, hcl, hW₂, hsm, hL⟩
  · obtain ⟨⟨v, rfl⟩, hW₂, e2, q2, q3, q4, q5, q6⟩ := id hfe
    have e3 : s₂ = ({ (U.calling g mk a).setFrames s₂.frames with heap := s₂.heap, slotsUsed := s₂.slotsUsed } : State).setVm s₂.vm := by
      have : s₂ = ({ s₂ with vm := (U.calling g mk a).vm } : State).setVm s₂.vm := rfl
      rw [e2] at this
      exact this
    obtain ⟨c₂, i₂, len₂, hc₂, hd₂, hf₂⟩ := hend
    have hW' : U.WarmedH s₂.vm := hW₂
    have hcc : c₂ = c := by
      have h1 : s₂.code? g.method = U.code? g.method := by
        rw [State.code?_eq, State.code?_eq, hW'.alike.method?]
      exact Option.some.inj (hc₂.symm.trans (h1.trans h.code))
    subst hcc
    have hlen : len₂ = len := by rw [hdg] at hd₂; cases hd₂; rfl
    subst hlen
    have hs₂ : s₂ = (({ U with heap := s₂.heap, slotsUsed := s₂.slotsUsed } : State).setVm s₂.vm).setTop { g with pc := g.pc + len₂, stack := v.toList ++ g.stack } := by
      refine e3.trans ?_
      rw [hf₂, State.calling_eq h.top, State.setFrames_setFrames, State.setTop_of_frames _ hr', hr]
      rfl
    have hsame : U.sameButNew ({ U with heap := s₂.heap, slotsUsed := s₂.slotsUsed } : State) L mc ms := by
      refine ⟨?_, q2, q3, q4, q5, q6⟩
      obtain ⟨t, ht, -⟩ := State.frames_cons hr
      show ({ U with heap := s₂.heap, slotsUsed := s₂.slotsUsed } : State) = { U.setFrames U.frames with heap := s₂.heap, slotsUsed := s₂.slotsUsed }
      rw [State.setFrames_self ht]
    subst hg
    refine Or.inl ⟨v, ⟨(({ U with heap := s₂.heap, slotsUsed := s₂.slotsUsed } : State).setVm s₂.vm), Ls ++ L, c0 + mc, s0 + ms⟩,
      ⟨X.admits, X.cas, X.clock, X.frames, X.room, X.hears, X.method, X.code, (X.here.setHeapUsed s₂.heap s₂.slotsUsed).setVm hW'.alike, X.tail, State.WarmedH.trans X.warmed hW', X.limits, X.bytes, X.same.trans (hsame.setVm s.vm)⟩,
      ⟨g, mk, s₂, L, rfl, rfl, hqc, rfl, hL, rfl, rfl⟩, ?_⟩
    show Steps p.tables e below _ ((({ U with heap := s₂.heap, slotsUsed := s₂.slotsUsed } : State).setVm s₂.vm).setTop { g with pc := g.pc + len₂, stack := v.toList ++ g.stack })
    rw [← hs₂]
    exact hsteps
  · obtain ⟨e2, q2, q3, q4, q5, q6⟩ := id hsm
    have e3 : s₂ = ({ (U.calling g mk a).setFrames s₂.frames with heap := s₂.heap, slotsUsed := s₂.slotsUsed } : State).setVm s₂.vm := by
      have : s₂ = ({ s₂ with vm := (U.calling g mk a).vm } : State).setVm s₂.vm := rfl
      rw [e2] at this
      exact this
    have hf₂ : s₂.frames = .throwing q :: .java g :: U.frames.tail := hend
    have hW' : U.WarmedH s₂.vm := hW₂
    have hs₂ : s₂ = ((({ U with heap := s₂.heap, slotsUsed := s₂.slotsUsed } : State).setVm s₂.vm).setTop g).pushFrame (.throwing q) := by
      refine e3.trans ?_
      rw [hf₂, State.calling_eq h.top, State.setFrames_setFrames, State.pushFrame, State.frames_setTop _ hr', State.setTop_of_frames _ hr', State.setFrames_setFrames, hr]
      rfl
    have hsame : U.sameButNew ({ U with heap := s₂.heap, slotsUsed := s₂.slotsUsed } : State) L mc ms := by
      refine ⟨?_, q2, q3, q4, q5, q6⟩
      obtain ⟨t, ht, -⟩ := State.frames_cons hr
      show ({ U with heap := s₂.heap, slotsUsed := s₂.slotsUsed } : State) = { U.setFrames U.frames with heap := s₂.heap, slotsUsed := s₂.slotsUsed }
      rw [State.setFrames_self ht]
    subst hg
    refine Or.inr ⟨q, ⟨(({ U with heap := s₂.heap, slotsUsed := s₂.slotsUsed } : State).setVm s₂.vm), Ls ++ L, c0 + mc, s0 + ms⟩,
      ⟨X.admits, X.cas, X.clock, X.frames, X.room, X.hears, X.method, X.code, (X.here.setHeapUsed s₂.heap s₂.slotsUsed).setVm hW'.alike, X.tail, State.WarmedH.trans X.warmed hW', X.limits, X.bytes, X.same.trans (hsame.setVm s.vm)⟩,
      ⟨g, mk, s₂, L, E, ce, rfl, rfl, hx, hce, hcv, hcl, rfl, hL, rfl, rfl⟩, ?_⟩
    show Steps p.tables e below _ (((({ U with heap := s₂.heap, slotsUsed := s₂.slotsUsed } : State).setVm s₂.vm).setTop g).pushFrame (.throwing q))
    rw [← hs₂]
    exact hsteps
end
variable {p : Program} {l : Launch} {e : Env} {R : Room} {s : State} {m : MethodId} {args : Array Value} {below : List Frame} {meth : Method} {c : Code} {T : State} {H : Heap} {locs : List Loc} {cells slots : Nat}
theorem vx_callVX (X : Stand p l e R s m args below meth c T locs cells slots) (hexec : p.tables.exec = Jvm.exec) {own C : String} {index : Nat} {y : MethodName} {bytes : ByteArray} {maxL : Nat} {ret : Option FieldType} {hh : List (Nat × Nat × Nat × Nat)}
    (hown : s.vm.findClass own = some m.cls) (hlink : (Cond.methodLink own index y).before args s = true) (hinst : (Cond.instanceMethod y).before args s = true) (hsel : (Cond.selects C y y).before args s = true)
    (hcode : (Cond.codeWith y bytes maxL ret hh).before args s = true) (hy : y.cls ≠ "java/lang/invoke/MethodHandle" ∧ y.cls ≠ "java/lang/invoke/VarHandle")
    {W9 : Nat} {Pre : Pt → Array Value → Prop} {Post : Pt → Array Value → Option Value → Pt → Prop} {PostX : Pt → Array Value → Addr → Pt → Prop} (hK : vx_Back l R p e below s args y 3 W9 Pre Post PostX)
    {b : Addr} {cellB : Cell} (hcell : T.heap[b]? = some cellB) (hobj : cellB.vm.isStatics = false) (hcls : s.vm.findClass C = some cellB.cls)
    {g : JFrame} (hg : g.method = m) (hsize : g.locals.size = c.maxLocals) {argsL rest : List Value} (hlen : ∀ sig, parseMethodDescriptor y.desc = some sig → argsL.length = sig.parameters.length)
    (hstack : g.stack = argsL.reverse ++ .ref b :: rest) (hW : 2 * g.monitorRoom + (rest.map fun v => v.category).sum ≤ W9) (hdg : decode c.code g.pc = .ok (.invokevirtual index, 3))
    (hpre : ∀ vm₁, s.WarmedH vm₁ → Pre ⟨T.setVm vm₁, locs, cells, slots⟩ (Value.ref b :: argsL).toArray) :
    (∃ (v : Option Value) (vm₁ : Vm) (B : Pt), s.WarmedH vm₁ ∧ Stand p l e R s m args below meth c B.U B.locs B.cells B.slots ∧ Post ⟨T.setVm vm₁, locs, cells, slots⟩ (Value.ref b :: argsL).toArray v B ∧
      ∀ target, Steps p.tables e below (B.U.setTop { g with pc := g.pc + 3, stack := v.toList ++ rest }) target → Steps p.tables e below (T.setTop g) target) ∨
    (∃ (q : Addr) (vm₁ : Vm) (B : Pt), s.WarmedH vm₁ ∧ Stand p l e R s m args below meth c B.U B.locs B.cells B.slots ∧ PostX ⟨T.setVm vm₁, locs, cells, slots⟩ (Value.ref b :: argsL).toArray q B ∧
      Steps p.tables e below (T.setTop g) ((B.U.setTop { g with stack := rest }).pushFrame (.throwing q))) := by
  obtain ⟨mk, methM, hnamed, hmethM, hstM, habM⟩ := Cond.instanceMethod_spec hinst
  obtain ⟨m8, methM', cM, hn8, hmethM', -, -, -, -, -, -, hsigM⟩ := Cond.codeWith_spec hcode
  cases Option.some.inj (hn8.symm.trans hnamed)
  cases hmethM.symm.trans hmethM'
  obtain ⟨c2, r2, m2, q1, q2, q3, q4, kP, hkP, hkPi⟩ := Cond.selects_spec hsel
  cases hcls.symm.trans q1
  cases (State.methodFound?_of_named hnamed hy).symm.trans q2
  cases hnamed.symm.trans q3
  have hselP : selectMethod e.platform s.vm cellB.cls mk = .method mk := by rw [Launch.admits_selectMethod X.admits]; exact q4
  obtain ⟨vm₁, X₁, hstep₁⟩ := X.invokevirtual hexec hown hlink hnamed hmethM hstM hkP hkPi hy (a := b) (cell := cellB) hcell
    (fun z h => by rw [h] at hobj; cases hobj) hselP hmethM habM hkP hkPi (g := g) hg (argsL := argsL) (rest := rest) (hlen _ hsigM) hstack hdg
  rcases hK m meth c ⟨T.setVm vm₁, locs, cells, slots⟩ { g with stack := rest } (.invokevirtual index) mk (Value.ref b :: argsL).toArray X₁ hg hsize hdg hW (X₁.named hnamed) (hpre vm₁ X₁.warmed) with ⟨v, B, X', hpost, hsteps⟩ | ⟨q, B, X', hpost, hsteps⟩
  · exact Or.inl ⟨v, vm₁, B, X₁.warmed, X', hpost, fun target h => hstep₁ _ fun acts => by rw [doInvoke_state]; exact hsteps.trans h⟩
  · exact Or.inr ⟨q, vm₁, B, X₁.warmed, X', hpost, hstep₁ _ fun acts => by rw [doInvoke_state]; exact hsteps⟩
theorem vx_callSX (X : Stand p l e R s m args below meth c T locs cells slots) (hexec : p.tables.exec = Jvm.exec) {own : String} {index : Nat} {y : MethodName} {bytes : ByteArray} {maxL : Nat} {ret : Option FieldType} {hh : List (Nat × Nat × Nat × Nat)}
    (hown : s.vm.findClass own = some m.cls) (hlink : (Cond.methodLink own index y).before args s = true) (hstat : (Cond.static y).before args s = true) (hinit : (Cond.initialized y.cls).before args s = true)
    (hcode : (Cond.codeWith y bytes maxL ret hh).before args s = true) (hy : y.cls ≠ "java/lang/invoke/MethodHandle" ∧ y.cls ≠ "java/lang/invoke/VarHandle")
    {W9 : Nat} {Pre : Pt → Array Value → Prop} {Post : Pt → Array Value → Option Value → Pt → Prop} {PostX : Pt → Array Value → Addr → Pt → Prop} (hK : vx_Back l R p e below s args y 3 W9 Pre Post PostX)
    {g : JFrame} (hg : g.method = m) (hsize : g.locals.size = c.maxLocals) {argsL rest : List Value} (hlen : ∀ sig, parseMethodDescriptor y.desc = some sig → argsL.length = sig.parameters.length)
    (hstack : g.stack = argsL.reverse ++ rest) (hW : 2 * g.monitorRoom + (rest.map fun v => v.category).sum ≤ W9) (hdg : decode c.code g.pc = .ok (.invokestatic index, 3))
    (hpre : ∀ vm₁, s.WarmedH vm₁ → Pre ⟨T.setVm vm₁, locs, cells, slots⟩ argsL.toArray) :
    (∃ (v : Option Value) (vm₁ : Vm) (B : Pt), s.WarmedH vm₁ ∧ Stand p l e R s m args below meth c B.U B.locs B.cells B.slots ∧ Post ⟨T.setVm vm₁, locs, cells, slots⟩ argsL.toArray v B ∧
      ∀ target, Steps p.tables e below (B.U.setTop { g with pc := g.pc + 3, stack := v.toList ++ rest }) target → Steps p.tables e below (T.setTop g) target) ∨
    (∃ (q : Addr) (vm₁ : Vm) (B : Pt), s.WarmedH vm₁ ∧ Stand p l e R s m args below meth c B.U B.locs B.cells B.slots ∧ PostX ⟨T.setVm vm₁, locs, cells, slots⟩ argsL.toArray q B ∧
      Steps p.tables e below (T.setTop g) ((B.U.setTop { g with stack := rest }).pushFrame (.throwing q))) := by
  obtain ⟨mk, methM, cM, hnamed, hmethM, -, -, -, -, -, -, hsigM⟩ := Cond.codeWith_spec hcode
  have hstatic : methM.isStatic = true := Cond.static_spec hnamed hmethM hstat
  obtain ⟨kP, hkP, -⟩ := className_of_methodNamed hnamed
  have hinitP : kP.init = .initialized := Cond.initialized_spec (findClass_of_methodNamed hnamed) hkP hinit
  obtain ⟨vm₁, X₁, hstep₁⟩ := X.invokestatic hexec hown hlink hnamed hmethM hstatic hkP hinitP hy (g := g) hg (argsL := argsL) (rest := rest) (hlen _ hsigM) hstack hdg
  rcases hK m meth c ⟨T.setVm vm₁, locs, cells, slots⟩ { g with stack := rest } (.invokestatic index) mk argsL.toArray X₁ hg hsize hdg hW (X₁.named hnamed) (hpre vm₁ X₁.warmed) with ⟨v, B, X', hpost, hsteps⟩ | ⟨q, B, X', hpost, hsteps⟩
  · exact Or.inl ⟨v, vm₁, B, X₁.warmed, X', hpost, fun target h => hstep₁ _ fun acts => by rw [doInvoke_state]; exact hsteps.trans h⟩
  · exact Or.inr ⟨q, vm₁, B, X₁.warmed, X', hpost, hstep₁ _ fun acts => by rw [doInvoke_state]; exact hsteps⟩
theorem vx_callVW (X : Stand p l e R s m args below meth c T locs cells slots) (hexec : p.tables.exec = Jvm.exec) {own C : String} {index : Nat} {y : MethodName} {bytes : ByteArray} {maxL : Nat} {ret : Option FieldType} {hh : List (Nat × Nat × Nat × Nat)}
    (hown : s.vm.findClass own = some m.cls) (hlink : (Cond.methodLink own index y).before args s = true) (hinst : (Cond.instanceMethod y).before args s = true) (hsel : (Cond.selects C y y).before args s = true)
    (hcode : (Cond.codeWith y bytes maxL ret hh).before args s = true) (hy : y.cls ≠ "java/lang/invoke/MethodHandle" ∧ y.cls ≠ "java/lang/invoke/VarHandle")
    {W9 : Nat} {Pre : Pt → Array Value → Prop} {Post : Pt → Array Value → Option Value → Pt → Prop} (hK : Back l R p e below s args y 3 W9 Pre Post)
    {b : Addr} {cellB : Cell} (hcell : T.heap[b]? = some cellB) (hobj : cellB.vm.isStatics = false) (hcls : s.vm.findClass C = some cellB.cls)
    {g : JFrame} (hg : g.method = m) (hsize : g.locals.size = c.maxLocals) {argsL rest : List Value} (hlen : ∀ sig, parseMethodDescriptor y.desc = some sig → argsL.length = sig.parameters.length)
    (hstack : g.stack = argsL.reverse ++ .ref b :: rest) (hW : 2 * g.monitorRoom + (rest.map fun v => v.category).sum ≤ W9) (hdg : decode c.code g.pc = .ok (.invokevirtual index, 3))
    (hpre : ∀ vm₁, s.WarmedH vm₁ → Pre ⟨T.setVm vm₁, locs, cells, slots⟩ (Value.ref b :: argsL).toArray) :
    ∃ (v : Option Value) (vm₁ : Vm) (B : Pt), s.WarmedH vm₁ ∧ Stand p l e R s m args below meth c B.U B.locs B.cells B.slots ∧ Post ⟨T.setVm vm₁, locs, cells, slots⟩ (Value.ref b :: argsL).toArray v B ∧
      ∀ target, Steps p.tables e below (B.U.setTop { g with pc := g.pc + 3, stack := v.toList ++ rest }) target → Steps p.tables e below (T.setTop g) target := by
  obtain ⟨mk, methM, hnamed, hmethM, hstM, habM⟩ := Cond.instanceMethod_spec hinst
  obtain ⟨m8, methM', cM, hn8, hmethM', -, -, -, -, -, -, hsigM⟩ := Cond.codeWith_spec hcode
  cases Option.some.inj (hn8.symm.trans hnamed)
  cases hmethM.symm.trans hmethM'
  obtain ⟨c2, r2, m2, q1, q2, q3, q4, kP, hkP, hkPi⟩ := Cond.selects_spec hsel
  cases hcls.symm.trans q1
  cases (State.methodFound?_of_named hnamed hy).symm.trans q2
  cases hnamed.symm.trans q3
  have hselP : selectMethod e.platform s.vm cellB.cls mk = .method mk := by rw [Launch.admits_selectMethod X.admits]; exact q4
  obtain ⟨vm₁, X₁, hstep₁⟩ := X.invokevirtual hexec hown hlink hnamed hmethM hstM hkP hkPi hy (a := b) (cell := cellB) hcell
    (fun z h => by rw [h] at hobj; cases hobj) hselP hmethM habM hkP hkPi (g := g) hg (argsL := argsL) (rest := rest) (hlen _ hsigM) hstack hdg
  obtain ⟨v, B, X', hpost, hsteps⟩ := hK m meth c ⟨T.setVm vm₁, locs, cells, slots⟩ { g with stack := rest } (.invokevirtual index) mk (Value.ref b :: argsL).toArray X₁ hg hsize hdg hW (X₁.named hnamed) (hpre vm₁ X₁.warmed)
  exact ⟨v, vm₁, B, X₁.warmed, X', hpost, fun target h => hstep₁ _ fun acts => by rw [doInvoke_state]; exact hsteps.trans h⟩
abbrev vx_CVW (R : Room) (s : State) (args : Array Value) (own C : String) (index : Nat) (y : MethodName) (bytes : ByteArray) (maxL : Nat) (ret : Option FieldType) (hh : List (Nat × Nat × Nat × Nat)) (ws : List Cond) (rm : Room) (mc ms n : Nat) : Prop :=
  (rm.cells = mc ∧ rm.slots = ms ∧ rm.frames + 1 ≤ R.frames ∧ 8 + (maxL + 11) + rm.locals ≤ R.locals ∧ (∀ w ∈ ws, ∀ (a' : Array Value) (U : State), s.WarmedH U.vm → w.before a' U = true) ∧ Cond.codeWith y bytes maxL ret hh ∈ ws) ∧
  (Cond.codeWith y bytes maxL ret hh).before args s = true ∧ (Cond.initialized y.cls).before args s = true ∧ (y.cls ≠ "java/lang/invoke/MethodHandle" ∧ y.cls ≠ "java/lang/invoke/VarHandle") ∧
  (∀ sig, parseMethodDescriptor y.desc = some sig → n = sig.parameters.length) ∧ (Cond.methodLink own index y).before args s = true ∧ (Cond.instanceMethod y).before args s = true ∧ (Cond.selects C y y).before args s = true
theorem vx_cwVW {own C : String} {index maxL mc ms : Nat} {y : MethodName} {bytes : ByteArray} {ret : Option FieldType} {hh : List (Nat × Nat × Nat × Nat)} {Ts ws ws' : List Cond} {rm : Room} (n : Nat) (ht : ∀ w ∈ Ts, w.before args s = true) (hT : GoodIn Ts (wsV own index C y ws)) (hw : ws = Cond.codeWith y bytes maxL ret hh :: ws') (hrc : rm.cells = mc) (hrs : rm.slots = ms)
    (hd : y.cls = C ∧ y.cls ≠ "java/lang/invoke/MethodHandle" ∧ y.cls ≠ "java/lang/invoke/VarHandle" ∧ (parseMethodDescriptor y.desc).map (fun d => d.parameters.length) = some n) (hR : rm.frames + 1 ≤ R.frames ∧ 8 + (maxL + 11) + rm.locals ≤ R.locals) :
    vx_CVW R s args own C index y bytes maxL ret hh ws rm mc ms n := by
  obtain ⟨hC, hd⟩ := hd
  subst hC
  have ok : ∀ w ∈ wsV own index y.cls y ws, w.before args s = true := fun w h => ht w (hT w h).1
  have hG : GoodIn Ts ws := fun w h => hT w (by unfold wsV; exact List.mem_append_right _ h)
  have hc : Cond.codeWith y bytes maxL ret hh ∈ ws := by rw [hw]; exact List.mem_cons_self
  refine ⟨⟨hrc, hrs, hR.1, hR.2, pay_in ht hG, hc⟩, ht _ (hG _ hc).1, ok _ (by simp [wsV]), ⟨hd.1, hd.2.1⟩, fun sig h => ?_, ok _ (by simp [wsV]), ok _ (by simp [wsV]), ok _ (by simp [wsV])⟩
  have h2 := hd.2.2
  rw [h] at h2
  exact (Option.some.inj h2).symm
theorem vx_runVW {y : MethodName} {bytes cc : ByteArray} {maxL nL mc ms n index : Nat} {ret : Option FieldType} {hh : List (Nat × Nat × Nat × Nat)} {ws : List Cond} {rm : Room} {Pc : Array Value → State → Prop} {Qc : Array Value → State → Outcome → State → Prop} {free : Addr → Prop} {Ts : List Cond} {own C : String} {b : Addr} {As rest : List Value} {g : JFrame}
    (S : CallFix p m c cc nL s args Ts own) (hM : Met l y ws rm Pc Qc mc ms free) (cw : vx_CVW R s args own C index y bytes maxL ret hh ws rm mc ms n) (hp : PreV s H C b Pc As)
    (hg : g.method = m) (hn : As.length = n) (hsize : g.locals.size = nL) (hstack : g.stack = As.reverse ++ .ref b :: rest) (hW : 2 * g.monitorRoom + (rest.map fun v => v.category).sum ≤ 8) (hdg : decode cc g.pc = .ok (.invokevirtual index, 3)) (hf : cells + mc ≤ R.cells ∧ slots + ms ≤ R.slots) :
    va_Run p l e R s m args below meth c H locs cells slots mc ms g rest (Qc (Value.ref b :: As).toArray) free := by
  obtain ⟨⟨hrc, hrs, hfr, hlo, hws, hcw⟩, hcode, hini, hy, hlen, hl, hin, hse⟩ := cw
  have hK : Back l R p e below s args y 3 8 (PreOf R mc ms Pc) (PostOf Qc mc ms free) := va_backW (hh := hh) (bytes := bytes) (maxL := maxL) (ret := ret) hM hp.1 hrc hrs hfr hlo hws hcw (fun a' U hW => word_at hW (Or.inl (by first | rfl | simp [Cond.onTables, Cond.keeps, Cond.steady])) hini)
  obtain ⟨hx, hb, hml, ho, -⟩ := S
  obtain ⟨-, ⟨cellB, hcB, hoB, hclB⟩, hPc⟩ := hp
  intro T hT X
  obtain ⟨v, vm₁, ⟨U', l2, c2, s2⟩, hW₁, X', ⟨g', mk, t, L, e1, e2, hq, h1, hL, h2, h3⟩, st⟩ := vx_callVW X hx (C := C) (hh := hh) (bytes := bytes) (maxL := maxL) (ret := ret) ho hl hin hse hcode hy hK (by rw [hT]; exact hcB) hoB hclB hg (hsize.trans hml.symm) (argsL := As) (rest := rest) (fun sig h => hn.trans (hlen sig h)) hstack hW (by rw [hb]; exact hdg)
    (fun vm₁ hW₁ => ⟨hf.1, hf.2, hPc (T.setVm vm₁) hT hW₁⟩)
  dsimp only [Pt.U, Pt.locs, Pt.cells, Pt.slots] at X' e1 e2 h1 h2 h3 st
  subst h1; subst h2; subst h3
  exact ⟨v, (T.setVm vm₁).calling g' mk (Value.ref b :: As).toArray, t, U', L, hT, X', hL, e1, e2, hq, st⟩
section
variable {y : MethodName} {bytes cc : ByteArray} {maxL nL mc ms n index : Nat} {ret : Option FieldType} {ws : List Cond} {rm : Room} {Pc : Array Value → State → Prop} {Qc : Array Value → State → Outcome → State → Prop} {XC : String → State → State → Prop} {free : Addr → Prop} {Ts : List Cond} {own C : String} {b : Addr} {As rest : List Value} {g : JFrame}
theorem vx_runVX {hh : List (Nat × Nat × Nat × Nat)} (S : CallFix p m c cc nL s args Ts own) (hM : vx_Met l y ws rm Pc Qc XC mc ms free) (cw : vx_CVW R s args own C index y bytes maxL ret hh ws rm mc ms n) (hp : PreV s H C b Pc As)
    (hg : g.method = m) (hn : As.length = n) (hsize : g.locals.size = nL) (hstack : g.stack = As.reverse ++ .ref b :: rest) (hW : 2 * g.monitorRoom + (rest.map fun v => v.category).sum ≤ 8) (hdg : decode cc g.pc = .ok (.invokevirtual index, 3)) (hf : cells + mc ≤ R.cells ∧ slots + ms ≤ R.slots) :
    vx_Run p l e R s m args below meth c H locs cells slots mc ms g rest (Qc (Value.ref b :: As).toArray) XC free := by
  obtain ⟨⟨hrc, hrs, hfr, hlo, hws, hcw⟩, hcode, hini, hy, hlen, hl, hin, hse⟩ := cw
  have hK : vx_Back l R p e below s args y 3 8 (PreOf R mc ms Pc) (PostOf Qc mc ms free) (vx_Post XC mc ms free) := vx_backW (hh := hh) (bytes := bytes) (maxL := maxL) (ret := ret) hM hp.1 hrc hrs hfr hlo hws hcw (fun a' U hW => word_at hW (Or.inl (by first | rfl | simp [Cond.onTables, Cond.keeps, Cond.steady])) hini)
  obtain ⟨hx, hb, hml, ho, -⟩ := S
  obtain ⟨-, ⟨cellB, hcB, hoB, hclB⟩, hPc⟩ := hp
  intro T hT X
  rcases vx_callVX X hx (C := C) (hh := hh) (bytes := bytes) (maxL := maxL) (ret := ret) ho hl hin hse hcode hy hK (by rw [hT]; exact hcB) hoB hclB hg (hsize.trans hml.symm) (argsL := As) (rest := rest) (fun sig h => hn.trans (hlen sig h)) hstack hW (by rw [hb]; exact hdg)
    (fun vm₁ hW₁ => ⟨hf.1, hf.2, hPc (T.setVm vm₁) hT hW₁⟩) with ⟨v, vm₁, ⟨U', l2, c2, s2⟩, hW₁, X', ⟨g', mk, t, L, e1, e2, hq, h1, hL, h2, h3⟩, st⟩ | ⟨q, vm₁, ⟨U', l2, c2, s2⟩, hW₁, X', ⟨g', mk, t, L, E, ce, e1, e2, hq, hce, hcv, hcl, h1, hL, h2, h3⟩, st⟩
  · dsimp only [Pt.U, Pt.locs, Pt.cells, Pt.slots] at X' e1 e2 h1 h2 h3 st
    subst h1; subst h2; subst h3
    exact Or.inl ⟨v, (T.setVm vm₁).calling g' mk (Value.ref b :: As).toArray, t, U', L, hT, X', hL, e1, e2, hq, st⟩
  · dsimp only [Pt.U, Pt.locs, Pt.cells, Pt.slots] at X' e1 e2 h1 h2 h3 st hcl
    subst h1; subst h2; subst h3
    exact Or.inr ⟨q, (T.setVm vm₁).calling g' mk (Value.ref b :: As).toArray, t, U', L, E, ce, hT, X', hL, e1, e2, hq, hce, hcv, vx_cls hW₁ hcl, st⟩
theorem vx_runSX {hh : List (Nat × Nat × Nat × Nat)} (S : CallFix p m c cc nL s args Ts own) (hM : vx_Met l y ws rm Pc Qc XC mc ms free) (cw : vx_CSW R s args own index y bytes maxL ret hh ws rm mc ms n) (hp : PreS s H Pc As)
    (hg : g.method = m) (hn : As.length = n) (hsize : g.locals.size = nL) (hstack : g.stack = As.reverse ++ rest) (hW : 2 * g.monitorRoom + (rest.map fun v => v.category).sum ≤ 8) (hdg : decode cc g.pc = .ok (.invokestatic index, 3)) (hf : cells + mc ≤ R.cells ∧ slots + ms ≤ R.slots) :
    vx_Run p l e R s m args below meth c H locs cells slots mc ms g rest (Qc As.toArray) XC free := by
  obtain ⟨⟨hrc, hrs, hfr, hlo, hws, hcw⟩, hcode, hini, hy, hlen, hl, hstt⟩ := cw
  have hK : vx_Back l R p e below s args y 3 8 (PreOf R mc ms Pc) (PostOf Qc mc ms free) (vx_Post XC mc ms free) := vx_backW (hh := hh) (bytes := bytes) (maxL := maxL) (ret := ret) hM hp.1 hrc hrs hfr hlo hws hcw (fun a' U hW => word_at hW (Or.inl (by first | rfl | simp [Cond.onTables, Cond.keeps, Cond.steady])) hini)
  obtain ⟨hx, hb, hml, ho, -⟩ := S
  intro T hT X
  rcases vx_callSX X hx (hh := hh) (bytes := bytes) (maxL := maxL) (ret := ret) ho hl hstt hini hcode hy hK hg (hsize.trans hml.symm) (argsL := As) (rest := rest) (fun sig h => hn.trans (hlen sig h)) hstack hW (by rw [hb]; exact hdg)
    (fun vm₁ hW₁ => ⟨hf.1, hf.2, hp.2 (T.setVm vm₁) hT hW₁⟩) with ⟨v, vm₁, ⟨U', l2, c2, s2⟩, hW₁, X', ⟨g', mk, t, L, e1, e2, hq, h1, hL, h2, h3⟩, st⟩ | ⟨q, vm₁, ⟨U', l2, c2, s2⟩, hW₁, X', ⟨g', mk, t, L, E, ce, e1, e2, hq, hce, hcv, hcl, h1, hL, h2, h3⟩, st⟩
  · dsimp only [Pt.U, Pt.locs, Pt.cells, Pt.slots] at X' e1 e2 h1 h2 h3 st
    subst h1; subst h2; subst h3
    exact Or.inl ⟨v, (T.setVm vm₁).calling g' mk As.toArray, t, U', L, hT, X', hL, e1, e2, hq, st⟩
  · dsimp only [Pt.U, Pt.locs, Pt.cells, Pt.slots] at X' e1 e2 h1 h2 h3 st hcl
    subst h1; subst h2; subst h3
    exact Or.inr ⟨q, (T.setVm vm₁).calling g' mk As.toArray, t, U', L, E, ce, hT, X', hL, e1, e2, hq, hce, hcv, vx_cls hW₁ hcl, st⟩
end
end VXH
theorem vx_ofWH {l : Launch} {y : MethodName} {ws ws' : List Cond} {rm : Room} {Pc : Array Value → State → Prop} {Qc : Array Value → State → Outcome → State → Prop} {XC : String → State → State → Prop} {mc ms : Nat} {free : Addr → Prop} {cc : ByteArray} {maxL : Nat} {ret : Option FieldType} {hh : List (Nat × Nat × Nat × Nat)}
    (hy : plainName y.cls = true) (hw : ws = Cond.codeWith y cc maxL ret hh :: ws')
    (body : ∀ p e s m args below meth c s₁, BodyLoose p l y (headSpec ws rm) cc maxL ret e s m args below meth c s₁ → c.maxLocals = maxL → Pc args s →
      W p l e (headSpec ws rm).room s m args below meth c s.heap [] 0 0 (vx_MQ below Qc XC args s mc ms free) (entryFrame m args maxL)) : vx_Met l y ws rm Pc Qc XC mc ms free := by
  refine MetFree.of_bodyS (code := cc) (maxLocals := maxL) (ret := ret) hy ?_ ?_
  · intro args s m h hn
    obtain ⟨m9, meth, c, hn9, h1, h2, h3, h4, -, h5, h6, -⟩ := Cond.codeWith_spec (atoms_spec (ws := ws) h _ (by rw [hw]; exact List.mem_cons_self))
    cases hn.symm.trans hn9
    exact ⟨meth, c, h1, h2, h3, h4, h5, h6⟩
  · intro p e s m args below meth c s₁ B hml hP _
    have hh0 : s₁.heap = s.heap := by rw [B.state]; rfl
    obtain ⟨t, a1, o, b1, b2, b3⟩ := body p e s m args below meth c s₁ B hml hP s₁ hh0 (Stand.of_body B)
    exact ⟨t, o, a1, b1, b2, b3⟩
/-! ===== END ===== -/
end
section
/-! names: classes, fields, methods; the common words -/
def RK : String := "CellProjection$Marks"
def RC : String := "CellProjection"
def RM : String := "CellProjectionModel"
def RL : String := "CellProjectionLaw"
def RJI : String := "java/lang/Integer"
def RJL : String := "java/lang/Long"
def RJM : String := "java/lang/Math"
def TK : u_T := fun k => match k with
  | 0 => ("CellProjection$Marks", "above", "[J", true)
  | 1 => ("CellProjection$Marks", "below", "[J", true)
  | _ => ("CellProjection$Marks", "count", "I", false)
def tyK : Nat → FieldType := fun k => match k with
  | 0 => .array .long
  | 1 => .array .long
  | _ => .int
theorem nmK : ∀ a, a < 3 → ∀ b, b < 3 → a ≠ b → (TK a).2.1 ≠ (TK b).2.1 := by decide +kernel
theorem tyK_ok : ∀ k, k < 3 → parseFieldDescriptor (TK k).2.2.1 = some (tyK k) := by decide +kernel
def TC : u_T := fun k => match k with
  | 0 => ("CellProjection", "a", "[I", true)
  | 1 => ("CellProjection", "b", "[I", true)
  | 2 => ("CellProjection", "c", "[I", true)
  | 3 => ("CellProjection", "lineCount", "I", false)
  | 4 => ("CellProjection", "cutMarks", "LCellProjection$Marks;", true)
  | 5 => ("CellProjection", "heights", "LCellProjection$Marks;", true)
  | 6 => ("CellProjection", "sampleAbove", "[J", true)
  | 7 => ("CellProjection", "sampleBelow", "[J", true)
  | 8 => ("CellProjection", "places", "[[I", true)
  | _ => ("CellProjection", "firstCell", "[I", true)
def tyC : Nat → FieldType := fun k => match k with
  | 0 => .array .int
  | 1 => .array .int
  | 2 => .array .int
  | 3 => .int
  | 4 => .object "CellProjection$Marks"
  | 5 => .object "CellProjection$Marks"
  | 6 => .array .long
  | 7 => .array .long
  | 8 => .array (.array .int)
  | _ => .array .int
theorem nmC : ∀ a, a < 10 → ∀ b, b < 10 → a ≠ b → (TC a).2.1 ≠ (TC b).2.1 := by decide +kernel
theorem tyC_ok : ∀ k, k < 10 → parseFieldDescriptor (TC k).2.2.1 = some (tyC k) := by decide +kernel
def TM : u_T := fun k => match k with
  | 0 => ("CellProjectionModel", "code", "I", false)
  | 1 => ("CellProjectionModel", "lines", "I", false)
  | 2 => ("CellProjectionModel", "numbers", "[I", true)
  | 3 => ("CellProjectionModel", "cuts", "I", false)
  | 4 => ("CellProjectionModel", "cutUp", "[J", true)
  | 5 => ("CellProjectionModel", "cutDown", "[J", true)
  | 6 => ("CellProjectionModel", "curves", "I", false)
  | 7 => ("CellProjectionModel", "yUp", "[J", true)
  | 8 => ("CellProjectionModel", "yDown", "[J", true)
  | 9 => ("CellProjectionModel", "up", "J", false)
  | 10 => ("CellProjectionModel", "down", "J", false)
  | 11 => ("CellProjectionModel", "xUp", "J", false)
  | 12 => ("CellProjectionModel", "xDown", "J", false)
  | 13 => ("CellProjectionModel", "strip", "I", false)
  | _ => ("CellProjectionModel", "place", "I", false)
def tyM : Nat → FieldType := fun k => match k with
  | 0 => .int
  | 1 => .int
  | 2 => .array .int
  | 3 => .int
  | 4 => .array .long
  | 5 => .array .long
  | 6 => .int
  | 7 => .array .long
  | 8 => .array .long
  | 9 => .long
  | 10 => .long
  | 11 => .long
  | 12 => .long
  | 13 => .int
  | _ => .int
theorem nmM : ∀ a, a < 15 → ∀ b, b < 15 → a ≠ b → (TM a).2.1 ≠ (TM b).2.1 := by decide +kernel
theorem tyM_ok : ∀ k, k < 15 → parseFieldDescriptor (TM k).2.2.1 = some (tyM k) := by decide +kernel
abbrev vwCl : List vw_C := [(RK, TK, 3), (RC, TC, 10), (RM, TM, 15)]
def y_C_init : MethodName := ⟨RC, "<init>", "()V"⟩
def y_K_init : MethodName := ⟨RK, "<init>", "()V"⟩
def y_C_rebuild : MethodName := ⟨RC, "rebuild", "()V"⟩
def y_C_gatherCuts : MethodName := ⟨RC, "gatherCuts", "()V"⟩
def y_C_addCut : MethodName := ⟨RC, "addCut", "(II)V"⟩
def y_K_insert : MethodName := ⟨RK, "insert", "(JJ)V"⟩
def y_K_pieceOf : MethodName := ⟨RK, "pieceOf", "(JJ)I"⟩
def y_JL_compare : MethodName := ⟨RJL, "compare", "(JJ)I"⟩
def y_C_stripCount : MethodName := ⟨RC, "stripCount", "()I"⟩
def y_C_layStrip : MethodName := ⟨RC, "layStrip", "(I)V"⟩
def y_K_samplePart : MethodName := ⟨RK, "samplePart", "(II)J"⟩
def y_K_reduced : MethodName := ⟨RK, "reduced", "(JJI)J"⟩
def y_JM_absJ : MethodName := ⟨RJM, "abs", "(J)J"⟩
def y_K_commonDivisor : MethodName := ⟨RK, "commonDivisor", "(JJ)J"⟩
def y_JM_maxJ : MethodName := ⟨RJM, "max", "(JJ)J"⟩
def y_C_measureHeights : MethodName := ⟨RC, "measureHeights", "(JJ)V"⟩
def y_C_heightAbove : MethodName := ⟨RC, "heightAbove", "(IJJ)J"⟩
def y_C_heightBelow : MethodName := ⟨RC, "heightBelow", "(IJ)J"⟩
def y_JM_absI : MethodName := ⟨RJM, "abs", "(I)I"⟩
def y_C_cuts : MethodName := ⟨RC, "cuts", "()I"⟩
def y_C_total : MethodName := ⟨RC, "total", "()I"⟩
def y_C_find : MethodName := ⟨RC, "find", "(I)I"⟩
def y_C_cellsOf : MethodName := ⟨RC, "cellsOf", "(I)I"⟩
def y_C_hasSigns : MethodName := ⟨RC, "hasSigns", "(III)Z"⟩
def y_C_signIn : MethodName := ⟨RC, "signIn", "(III)I"⟩
def y_JI_compare : MethodName := ⟨RJI, "compare", "(II)I"⟩
def y_C_wantFor : MethodName := ⟨RC, "wantFor", "(I)I"⟩
def y_C_lines : MethodName := ⟨RC, "lines", "()I"⟩
def y_L_line : MethodName := ⟨RL, "line", "(LCellProjection;III[J)I"⟩
def y_C_line : MethodName := ⟨RC, "line", "(III)I"⟩
def y_C_isFactor : MethodName := ⟨RC, "isFactor", "(I)Z"⟩
def y_L_drop : MethodName := ⟨RL, "drop", "(LCellProjection;I)I"⟩
def y_C_drop : MethodName := ⟨RC, "drop", "(I)V"⟩
def y_C_isLine : MethodName := ⟨RC, "isLine", "(I)Z"⟩
def y_L_cut : MethodName := ⟨RL, "cut", "(LCellProjection;II[J)I"⟩
def y_C_cut : MethodName := ⟨RC, "cut", "(II)J"⟩
def y_C_isPart : MethodName := ⟨RC, "isPart", "(I)Z"⟩
def y_L_curves : MethodName := ⟨RL, "curves", "(LCellProjection;I[J)I"⟩
def y_C_curves : MethodName := ⟨RC, "curves", "(I)I"⟩
def y_L_cell : MethodName := ⟨RL, "cell", "(LCellProjection;II[J)I"⟩
def y_C_cell : MethodName := ⟨RC, "cell", "(II)I"⟩
def y_C_isCell : MethodName := ⟨RC, "isCell", "(I)Z"⟩
def y_C_stripOf : MethodName := ⟨RC, "stripOf", "(I)I"⟩
def y_L_sample : MethodName := ⟨RL, "sample", "(LCellProjection;III[J)I"⟩
def y_C_sample : MethodName := ⟨RC, "sample", "(III)J"⟩
def y_L_sign : MethodName := ⟨RL, "sign", "(LCellProjection;II[J)I"⟩
def y_C_sign : MethodName := ⟨RC, "sign", "(II)I"⟩
def y_L_at : MethodName := ⟨RL, "at", "(LCellProjection;IIII[J)I"⟩
def y_C_at : MethodName := ⟨RC, "at", "(IIII)I"⟩
def y_C_isNear : MethodName := ⟨RC, "isNear", "(I)Z"⟩
def y_L_touch : MethodName := ⟨RL, "touch", "(LCellProjection;II[J)I"⟩
def y_C_touch : MethodName := ⟨RC, "touch", "(II)Z"⟩
def y_C_reaches : MethodName := ⟨RC, "reaches", "(IIII)Z"⟩
def y_M_init : MethodName := ⟨RM, "<init>", "()V"⟩
def y_M_thrown : MethodName := ⟨RM, "thrown", "()I"⟩
def y_M_line : MethodName := ⟨RM, "line", "(III)I"⟩
def y_M_in : MethodName := ⟨RM, "in", "(JJJ)Z"⟩
def y_M_look : MethodName := ⟨RM, "look", "()V"⟩
def y_M_lowest : MethodName := ⟨RM, "lowest", "(JJ)V"⟩
def y_M_keepCut : MethodName := ⟨RM, "keepCut", "()V"⟩
def y_M_drop : MethodName := ⟨RM, "drop", "(I)V"⟩
def y_M_lines : MethodName := ⟨RM, "lines", "()I"⟩
def y_M_cuts : MethodName := ⟨RM, "cuts", "()I"⟩
def y_M_cut : MethodName := ⟨RM, "cut", "(II)J"⟩
def y_M_curves : MethodName := ⟨RM, "curves", "(I)I"⟩
def y_M_curvesOf : MethodName := ⟨RM, "curvesOf", "(I)V"⟩
def y_M_sampleX : MethodName := ⟨RM, "sampleX", "(I)V"⟩
def y_M_findCurves : MethodName := ⟨RM, "findCurves", "()V"⟩
def y_M_lineAt : MethodName := ⟨RM, "lineAt", "(I)V"⟩
def y_M_below : MethodName := ⟨RM, "below", "()I"⟩
def y_M_total : MethodName := ⟨RM, "total", "()I"⟩
def y_M_cell : MethodName := ⟨RM, "cell", "(II)I"⟩
def y_M_isCell : MethodName := ⟨RM, "isCell", "(I)Z"⟩
def y_M_sample : MethodName := ⟨RM, "sample", "(III)J"⟩
def y_M_sampleY : MethodName := ⟨RM, "sampleY", "()V"⟩
def y_M_told : MethodName := ⟨RM, "told", "(I)J"⟩
def y_M_sign : MethodName := ⟨RM, "sign", "(II)I"⟩
def y_M_signAt : MethodName := ⟨RM, "signAt", "(I)I"⟩
def y_M_at : MethodName := ⟨RM, "at", "(IIII)I"⟩
def y_M_find : MethodName := ⟨RM, "find", "(I)I"⟩
def y_M_isSo : MethodName := ⟨RM, "isSo", "(I)Z"⟩
def y_M_touch : MethodName := ⟨RM, "touch", "(II)Z"⟩
def y_M_ends : MethodName := ⟨RM, "ends", "(III)I"⟩
def y_M_lineOf : MethodName := ⟨RM, "lineOf", "(II)I"⟩
def y_L_law : MethodName := ⟨RL, "law", "([I)Z"⟩
/-- the words that every method has -/
def cw : List Cond := lw_tbl.filter goodWord
theorem cw_t {w : Cond} (i : Nat) (h : tables_1[i]? = some w) (hg : goodWord w = true) : w ∈ cw := List.mem_filter.mpr ⟨List.mem_append_right _ (List.mem_of_getElem? h), hg⟩
theorem cw_s {w : Cond} (i : Nat) (h : (k2_sels lw_privs)[i]? = some w) (hg : goodWord w = true) : w ∈ cw := List.mem_filter.mpr ⟨List.mem_append_left _ (List.mem_of_getElem? h), hg⟩
theorem cw_in {w : Cond} (h : w ∈ cw) : w ∈ lw_tbl := (List.mem_filter.mp h).1
theorem cw_good : ∀ w ∈ cw, (w.onTables && w.keeps) = true ∨ ∃ ty, w = .arrayClass ty := fun w h => good_of_word (List.mem_filter.mp h).2
theorem cw_call {w : Cond} (h : w ∈ cw) : GoodIn cw (w :: cw) := fun v hv => (List.mem_cons.mp hv).elim (fun e => by rw [e]; exact ⟨h, cw_good w h⟩) (fun q => ⟨q, cw_good v q⟩)
theorem m_0 : (Cond.initialized "CellProjectionLaw") ∈ cw := cw_t 0 (by decide +kernel) (by decide +kernel)
theorem m_1 : (Cond.initialized "CellProjection") ∈ cw := cw_t 1 (by decide +kernel) (by decide +kernel)
theorem m_2 : (Cond.initialized "CellProjection$Marks") ∈ cw := cw_t 2 (by decide +kernel) (by decide +kernel)
theorem m_3 : (Cond.initialized "java/lang/Long") ∈ cw := cw_t 3 (by decide +kernel) (by decide +kernel)
theorem m_4 : (Cond.initialized "java/lang/Math") ∈ cw := cw_t 4 (by decide +kernel) (by decide +kernel)
theorem m_5 : (Cond.initialized "CellProjectionModel") ∈ cw := cw_t 5 (by decide +kernel) (by decide +kernel)
theorem m_6 : (Cond.initialized "java/lang/Throwable") ∈ cw := cw_t 6 (by decide +kernel) (by decide +kernel)
theorem m_7 : (Cond.initialized "java/lang/Exception") ∈ cw := cw_t 7 (by decide +kernel) (by decide +kernel)
theorem m_8 : (Cond.initialized "java/lang/RuntimeException") ∈ cw := cw_t 8 (by decide +kernel) (by decide +kernel)
theorem m_9 : (Cond.initialized "java/lang/IllegalArgumentException") ∈ cw := cw_t 9 (by decide +kernel) (by decide +kernel)
theorem m_10 : (Cond.initialized "java/lang/IllegalStateException") ∈ cw := cw_t 10 (by decide +kernel) (by decide +kernel)
theorem m_11 : (Cond.initialized "java/lang/IndexOutOfBoundsException") ∈ cw := cw_t 11 (by decide +kernel) (by decide +kernel)
theorem m_12 : (Cond.initialized "java/lang/Integer") ∈ cw := cw_t 12 (by decide +kernel) (by decide +kernel)
theorem m_13 : (Cond.classLink RL 8 "CellProjection") ∈ cw := cw_t 13 (by decide +kernel) (by decide +kernel)
theorem m_14 : (Cond.instantiable "CellProjection" 10) ∈ cw := cw_t 14 (by decide +kernel) (by decide +kernel)
theorem m_15 : (Cond.methodLink RL 50 y_C_init) ∈ cw := cw_t 15 (by decide +kernel) (by decide +kernel)
theorem m_16 : (Cond.instanceMethod y_C_init) ∈ cw := cw_t 16 (by decide +kernel) (by decide +kernel)
theorem m_17 : (Cond.code y_C_init prog_1_method_1_code 1 none) ∈ cw := cw_t 17 (by decide +kernel) (by decide +kernel)
theorem m_18 : (Cond.methodLink RC 3 objectInit) ∈ cw := cw_t 18 (by decide +kernel) (by decide +kernel)
theorem m_19 : (Cond.instanceMethod objectInit) ∈ cw := cw_t 19 (by decide +kernel) (by decide +kernel)
theorem m_20 : (Cond.code objectInit object_method_1_code 1 none) ∈ cw := cw_t 20 (by decide +kernel) (by decide +kernel)
theorem m_21 : (Cond.classLink RC 23 "CellProjection$Marks") ∈ cw := cw_t 21 (by decide +kernel) (by decide +kernel)
theorem m_22 : (Cond.instantiable "CellProjection$Marks" 3) ∈ cw := cw_t 22 (by decide +kernel) (by decide +kernel)
theorem m_23 : (Cond.methodLink RC 25 y_K_init) ∈ cw := cw_t 23 (by decide +kernel) (by decide +kernel)
theorem m_24 : (Cond.instanceMethod y_K_init) ∈ cw := cw_t 24 (by decide +kernel) (by decide +kernel)
theorem m_25 : (Cond.code y_K_init prog_2_method_1_code 1 none) ∈ cw := cw_t 25 (by decide +kernel) (by decide +kernel)
theorem m_26 : (Cond.methodLink RK 3 objectInit) ∈ cw := cw_t 26 (by decide +kernel) (by decide +kernel)
theorem m_27 : (Cond.fieldLink RK 9 "CellProjection$Marks" "above" "[J") ∈ cw := cw_t 27 (by decide +kernel) (by decide +kernel)
theorem m_28 : (Cond.fieldLink RK 15 "CellProjection$Marks" "below" "[J") ∈ cw := cw_t 28 (by decide +kernel) (by decide +kernel)
theorem m_29 : (Cond.fieldLink RK 18 "CellProjection$Marks" "count" "I") ∈ cw := cw_t 29 (by decide +kernel) (by decide +kernel)
theorem m_38 : (Cond.arrayClass .int) ∈ cw := cw_t 38 (by decide +kernel) (by decide +kernel)
theorem m_39 : (Cond.arrayClass .long) ∈ cw := cw_t 39 (by decide +kernel) (by decide +kernel)
theorem m_40 : (Cond.classLink RC 40 "[[I") ∈ cw := cw_t 40 (by decide +kernel) (by decide +kernel)
theorem m_42 : (Cond.methodLink RC 48 y_C_rebuild) ∈ cw := cw_t 42 (by decide +kernel) (by decide +kernel)
theorem m_44 : (Cond.instanceMethod y_C_rebuild) ∈ cw := cw_t 44 (by decide +kernel) (by decide +kernel)
theorem m_45 : (Cond.code y_C_rebuild prog_1_method_23_code 3 none) ∈ cw := cw_t 45 (by decide +kernel) (by decide +kernel)
theorem m_46 : (Cond.methodLink RC 145 y_C_gatherCuts) ∈ cw := cw_t 46 (by decide +kernel) (by decide +kernel)
theorem m_48 : (Cond.instanceMethod y_C_gatherCuts) ∈ cw := cw_t 48 (by decide +kernel) (by decide +kernel)
theorem m_49 : (Cond.code y_C_gatherCuts prog_1_method_24_code 3 none) ∈ cw := cw_t 49 (by decide +kernel) (by decide +kernel)
theorem m_50 : (Cond.methodLink RC 152 y_C_addCut) ∈ cw := cw_t 50 (by decide +kernel) (by decide +kernel)
theorem m_52 : (Cond.instanceMethod y_C_addCut) ∈ cw := cw_t 52 (by decide +kernel) (by decide +kernel)
theorem m_53 : (Cond.code y_C_addCut prog_1_method_25_code 3 none) ∈ cw := cw_t 53 (by decide +kernel) (by decide +kernel)
theorem m_54 : (Cond.methodLink RC 156 y_K_insert) ∈ cw := cw_t 54 (by decide +kernel) (by decide +kernel)
theorem m_55 : (Cond.instanceMethod y_K_insert) ∈ cw := cw_t 55 (by decide +kernel) (by decide +kernel)
theorem m_56 : (Cond.selects "CellProjection$Marks" y_K_insert y_K_insert) ∈ cw := cw_t 56 (by decide +kernel) (by decide +kernel)
theorem m_57 : (Cond.code y_K_insert prog_2_method_2_code 8 none) ∈ cw := cw_t 57 (by decide +kernel) (by decide +kernel)
theorem m_58 : (Cond.methodLink RK 22 y_K_pieceOf) ∈ cw := cw_t 58 (by decide +kernel) (by decide +kernel)
theorem m_59 : (Cond.instanceMethod y_K_pieceOf) ∈ cw := cw_t 59 (by decide +kernel) (by decide +kernel)
theorem m_60 : (Cond.selects "CellProjection$Marks" y_K_pieceOf y_K_pieceOf) ∈ cw := cw_t 60 (by decide +kernel) (by decide +kernel)
theorem m_61 : (Cond.code y_K_pieceOf prog_2_method_3_code 7 (some .int)) ∈ cw := cw_t 61 (by decide +kernel) (by decide +kernel)
theorem m_62 : (Cond.methodLink RK 26 y_JL_compare) ∈ cw := cw_t 62 (by decide +kernel) (by decide +kernel)
theorem m_63 : (Cond.static y_JL_compare) ∈ cw := cw_t 63 (by decide +kernel) (by decide +kernel)
theorem m_64 : (Cond.code y_JL_compare prog_10_method_42_code 4 (some .int)) ∈ cw := cw_t 64 (by decide +kernel) (by decide +kernel)
theorem m_65 : (Cond.methodLink RC 91 y_C_stripCount) ∈ cw := cw_t 65 (by decide +kernel) (by decide +kernel)
theorem m_67 : (Cond.instanceMethod y_C_stripCount) ∈ cw := cw_t 67 (by decide +kernel) (by decide +kernel)
theorem m_68 : (Cond.code y_C_stripCount prog_1_method_20_code 1 (some .int)) ∈ cw := cw_t 68 (by decide +kernel) (by decide +kernel)
theorem m_69 : (Cond.methodLink RC 148 y_C_layStrip) ∈ cw := cw_t 69 (by decide +kernel) (by decide +kernel)
theorem m_71 : (Cond.instanceMethod y_C_layStrip) ∈ cw := cw_t 71 (by decide +kernel) (by decide +kernel)
theorem m_72 : (Cond.code y_C_layStrip prog_1_method_26_code 7 none) ∈ cw := cw_t 72 (by decide +kernel) (by decide +kernel)
theorem m_73 : (Cond.methodLink RC 87 y_K_samplePart) ∈ cw := cw_t 73 (by decide +kernel) (by decide +kernel)
theorem m_74 : (Cond.instanceMethod y_K_samplePart) ∈ cw := cw_t 74 (by decide +kernel) (by decide +kernel)
theorem m_75 : (Cond.selects "CellProjection$Marks" y_K_samplePart y_K_samplePart) ∈ cw := cw_t 75 (by decide +kernel) (by decide +kernel)
theorem m_76 : (Cond.code y_K_samplePart prog_2_method_4_code 6 (some .long)) ∈ cw := cw_t 76 (by decide +kernel) (by decide +kernel)
theorem m_77 : (Cond.methodLink RK 31 y_K_reduced) ∈ cw := cw_t 77 (by decide +kernel) (by decide +kernel)
theorem m_78 : (Cond.static y_K_reduced) ∈ cw := cw_t 78 (by decide +kernel) (by decide +kernel)
theorem m_79 : (Cond.code y_K_reduced prog_2_method_5_code 7 (some .long)) ∈ cw := cw_t 79 (by decide +kernel) (by decide +kernel)
theorem m_80 : (Cond.methodLink RK 37 y_JM_absJ) ∈ cw := cw_t 80 (by decide +kernel) (by decide +kernel)
theorem m_81 : (Cond.static y_JM_absJ) ∈ cw := cw_t 81 (by decide +kernel) (by decide +kernel)
theorem m_82 : (Cond.code y_JM_absJ prog_11_method_61_code 2 (some .long)) ∈ cw := cw_t 82 (by decide +kernel) (by decide +kernel)
theorem m_83 : (Cond.methodLink RK 43 y_K_commonDivisor) ∈ cw := cw_t 83 (by decide +kernel) (by decide +kernel)
theorem m_84 : (Cond.static y_K_commonDivisor) ∈ cw := cw_t 84 (by decide +kernel) (by decide +kernel)
theorem m_85 : (Cond.code y_K_commonDivisor prog_2_method_6_code 11 (some .long)) ∈ cw := cw_t 85 (by decide +kernel) (by decide +kernel)
theorem m_86 : (Cond.methodLink RK 47 y_JM_maxJ) ∈ cw := cw_t 86 (by decide +kernel) (by decide +kernel)
theorem m_87 : (Cond.static y_JM_maxJ) ∈ cw := cw_t 87 (by decide +kernel) (by decide +kernel)
theorem m_88 : (Cond.code y_JM_maxJ prog_11_method_66_code 4 (some .long)) ∈ cw := cw_t 88 (by decide +kernel) (by decide +kernel)
theorem m_89 : (Cond.constantLong RK 35 2) ∈ cw := cw_t 89 (by decide +kernel) (by decide +kernel)
theorem m_90 : (Cond.methodLink RC 113 y_C_measureHeights) ∈ cw := cw_t 90 (by decide +kernel) (by decide +kernel)
theorem m_92 : (Cond.instanceMethod y_C_measureHeights) ∈ cw := cw_t 92 (by decide +kernel) (by decide +kernel)
theorem m_93 : (Cond.code y_C_measureHeights prog_1_method_27_code 6 none) ∈ cw := cw_t 93 (by decide +kernel) (by decide +kernel)
theorem m_94 : (Cond.methodLink RC 159 y_C_heightAbove) ∈ cw := cw_t 94 (by decide +kernel) (by decide +kernel)
theorem m_96 : (Cond.instanceMethod y_C_heightAbove) ∈ cw := cw_t 96 (by decide +kernel) (by decide +kernel)
theorem m_97 : (Cond.code y_C_heightAbove prog_1_method_28_code 8 (some .long)) ∈ cw := cw_t 97 (by decide +kernel) (by decide +kernel)
theorem m_98 : (Cond.methodLink RC 163 y_C_heightBelow) ∈ cw := cw_t 98 (by decide +kernel) (by decide +kernel)
theorem m_100 : (Cond.instanceMethod y_C_heightBelow) ∈ cw := cw_t 100 (by decide +kernel) (by decide +kernel)
theorem m_101 : (Cond.code y_C_heightBelow prog_1_method_29_code 4 (some .long)) ∈ cw := cw_t 101 (by decide +kernel) (by decide +kernel)
theorem m_102 : (Cond.methodLink RC 136 y_JM_absI) ∈ cw := cw_t 102 (by decide +kernel) (by decide +kernel)
theorem m_103 : (Cond.static y_JM_absI) ∈ cw := cw_t 103 (by decide +kernel) (by decide +kernel)
theorem m_104 : (Cond.code y_JM_absI prog_11_method_59_code 1 (some .int)) ∈ cw := cw_t 104 (by decide +kernel) (by decide +kernel)
theorem m_105 : (Cond.methodLink RC 128 y_K_pieceOf) ∈ cw := cw_t 105 (by decide +kernel) (by decide +kernel)
theorem m_106 : (Cond.fieldLink RC 9 "CellProjection" "a" "[I") ∈ cw := cw_t 106 (by decide +kernel) (by decide +kernel)
theorem m_107 : (Cond.fieldLink RC 13 "CellProjection" "b" "[I") ∈ cw := cw_t 107 (by decide +kernel) (by decide +kernel)
theorem m_108 : (Cond.fieldLink RC 16 "CellProjection" "c" "[I") ∈ cw := cw_t 108 (by decide +kernel) (by decide +kernel)
theorem m_109 : (Cond.fieldLink RC 19 "CellProjection" "lineCount" "I") ∈ cw := cw_t 109 (by decide +kernel) (by decide +kernel)
theorem m_110 : (Cond.fieldLink RC 26 "CellProjection" "cutMarks" "LCellProjection$Marks;") ∈ cw := cw_t 110 (by decide +kernel) (by decide +kernel)
theorem m_111 : (Cond.fieldLink RC 30 "CellProjection" "heights" "LCellProjection$Marks;") ∈ cw := cw_t 111 (by decide +kernel) (by decide +kernel)
theorem m_112 : (Cond.fieldLink RC 33 "CellProjection" "sampleAbove" "[J") ∈ cw := cw_t 112 (by decide +kernel) (by decide +kernel)
theorem m_113 : (Cond.fieldLink RC 37 "CellProjection" "sampleBelow" "[J") ∈ cw := cw_t 113 (by decide +kernel) (by decide +kernel)
theorem m_114 : (Cond.fieldLink RC 42 "CellProjection" "places" "[[I") ∈ cw := cw_t 114 (by decide +kernel) (by decide +kernel)
theorem m_115 : (Cond.fieldLink RC 45 "CellProjection" "firstCell" "[I") ∈ cw := cw_t 115 (by decide +kernel) (by decide +kernel)
theorem m_137 : (Cond.methodLink RL 68 y_C_cuts) ∈ cw := cw_t 137 (by decide +kernel) (by decide +kernel)
theorem m_138 : (Cond.instanceMethod y_C_cuts) ∈ cw := cw_t 138 (by decide +kernel) (by decide +kernel)
theorem m_139 : (Cond.selects "CellProjection" y_C_cuts y_C_cuts) ∈ cw := cw_t 139 (by decide +kernel) (by decide +kernel)
theorem m_140 : (Cond.code y_C_cuts prog_1_method_4_code 1 (some .int)) ∈ cw := cw_t 140 (by decide +kernel) (by decide +kernel)
theorem m_141 : (Cond.methodLink RL 80 y_C_total) ∈ cw := cw_t 141 (by decide +kernel) (by decide +kernel)
theorem m_142 : (Cond.instanceMethod y_C_total) ∈ cw := cw_t 142 (by decide +kernel) (by decide +kernel)
theorem m_143 : (Cond.selects "CellProjection" y_C_total y_C_total) ∈ cw := cw_t 143 (by decide +kernel) (by decide +kernel)
theorem m_144 : (Cond.code y_C_total prog_1_method_7_code 1 (some .int)) ∈ cw := cw_t 144 (by decide +kernel) (by decide +kernel)
theorem m_145 : (Cond.methodLink RL 97 y_C_find) ∈ cw := cw_t 145 (by decide +kernel) (by decide +kernel)
theorem m_146 : (Cond.instanceMethod y_C_find) ∈ cw := cw_t 146 (by decide +kernel) (by decide +kernel)
theorem m_147 : (Cond.selects "CellProjection" y_C_find y_C_find) ∈ cw := cw_t 147 (by decide +kernel) (by decide +kernel)
theorem m_148 : (Cond.code y_C_find prog_1_method_12_code 6 (some .int)) ∈ cw := cw_t 148 (by decide +kernel) (by decide +kernel)
theorem m_149 : (Cond.methodLink RC 97 y_C_cellsOf) ∈ cw := cw_t 149 (by decide +kernel) (by decide +kernel)
theorem m_151 : (Cond.instanceMethod y_C_cellsOf) ∈ cw := cw_t 151 (by decide +kernel) (by decide +kernel)
theorem m_152 : (Cond.code y_C_cellsOf prog_1_method_21_code 2 (some .int)) ∈ cw := cw_t 152 (by decide +kernel) (by decide +kernel)
theorem m_153 : (Cond.methodLink RC 132 y_C_hasSigns) ∈ cw := cw_t 153 (by decide +kernel) (by decide +kernel)
theorem m_155 : (Cond.instanceMethod y_C_hasSigns) ∈ cw := cw_t 155 (by decide +kernel) (by decide +kernel)
theorem m_156 : (Cond.code y_C_hasSigns prog_1_method_31_code 6 (some .boolean)) ∈ cw := cw_t 156 (by decide +kernel) (by decide +kernel)
theorem m_157 : (Cond.methodLink RC 117 y_C_signIn) ∈ cw := cw_t 157 (by decide +kernel) (by decide +kernel)
theorem m_159 : (Cond.instanceMethod y_C_signIn) ∈ cw := cw_t 159 (by decide +kernel) (by decide +kernel)
theorem m_160 : (Cond.code y_C_signIn prog_1_method_30_code 5 (some .int)) ∈ cw := cw_t 160 (by decide +kernel) (by decide +kernel)
theorem m_161 : (Cond.methodLink RC 167 y_JL_compare) ∈ cw := cw_t 161 (by decide +kernel) (by decide +kernel)
theorem m_162 : (Cond.methodLink RC 172 y_JI_compare) ∈ cw := cw_t 162 (by decide +kernel) (by decide +kernel)
theorem m_163 : (Cond.static y_JI_compare) ∈ cw := cw_t 163 (by decide +kernel) (by decide +kernel)
theorem m_164 : (Cond.code y_JI_compare prog_9_method_40_code 2 (some .int)) ∈ cw := cw_t 164 (by decide +kernel) (by decide +kernel)
theorem m_165 : (Cond.methodLink RC 177 y_C_wantFor) ∈ cw := cw_t 165 (by decide +kernel) (by decide +kernel)
theorem m_166 : (Cond.static y_C_wantFor) ∈ cw := cw_t 166 (by decide +kernel) (by decide +kernel)
theorem m_167 : (Cond.code y_C_wantFor prog_1_method_32_code 1 (some .int)) ∈ cw := cw_t 167 (by decide +kernel) (by decide +kernel)
theorem m_168 : (Cond.methodLink RL 104 y_C_lines) ∈ cw := cw_t 168 (by decide +kernel) (by decide +kernel)
theorem m_169 : (Cond.instanceMethod y_C_lines) ∈ cw := cw_t 169 (by decide +kernel) (by decide +kernel)
theorem m_170 : (Cond.selects "CellProjection" y_C_lines y_C_lines) ∈ cw := cw_t 170 (by decide +kernel) (by decide +kernel)
theorem m_171 : (Cond.code y_C_lines prog_1_method_14_code 1 (some .int)) ∈ cw := cw_t 171 (by decide +kernel) (by decide +kernel)
theorem m_172 : (Cond.methodLink RL 54 y_L_line) ∈ cw := cw_t 172 (by decide +kernel) (by decide +kernel)
theorem m_173 : (Cond.static y_L_line) ∈ cw := cw_t 173 (by decide +kernel) (by decide +kernel)
theorem m_174 : (Cond.codeWith y_L_line method_3_code 6 (some .int) [(0, 12, 15, 13), (0, 12, 19, 15)]) ∈ cw := cw_t 174 (by decide +kernel) (by decide +kernel)
theorem m_175 : (Cond.classLink RL 13 "java/lang/IllegalArgumentException") ∈ cw := cw_t 175 (by decide +kernel) (by decide +kernel)
theorem m_176 : (Cond.classLink RL 15 "java/lang/IllegalStateException") ∈ cw := cw_t 176 (by decide +kernel) (by decide +kernel)
theorem m_177 : (Cond.methodLink RL 7 y_C_line) ∈ cw := cw_t 177 (by decide +kernel) (by decide +kernel)
theorem m_178 : (Cond.instanceMethod y_C_line) ∈ cw := cw_t 178 (by decide +kernel) (by decide +kernel)
theorem m_179 : (Cond.selects "CellProjection" y_C_line y_C_line) ∈ cw := cw_t 179 (by decide +kernel) (by decide +kernel)
theorem m_180 : (Cond.code y_C_line prog_1_method_2_code 5 (some .int)) ∈ cw := cw_t 180 (by decide +kernel) (by decide +kernel)
theorem m_181 : (Cond.methodLink RC 51 y_C_isFactor) ∈ cw := cw_t 181 (by decide +kernel) (by decide +kernel)
theorem m_182 : (Cond.static y_C_isFactor) ∈ cw := cw_t 182 (by decide +kernel) (by decide +kernel)
theorem m_183 : (Cond.code y_C_isFactor prog_1_method_15_code 1 (some .boolean)) ∈ cw := cw_t 183 (by decide +kernel) (by decide +kernel)
theorem m_184 : (Cond.classLink RC 55 "java/lang/IllegalArgumentException") ∈ cw := cw_t 184 (by decide +kernel) (by decide +kernel)
theorem m_185 : (Cond.instantiable "java/lang/IllegalArgumentException" 6) ∈ cw := cw_t 185 (by decide +kernel) (by decide +kernel)
theorem m_193 : (Cond.selects "java/lang/IllegalArgumentException" ⟨"java/lang/Throwable", "fillInStackTrace", "(I)Ljava/lang/Throwable;"⟩ ⟨"java/lang/Throwable", "fillInStackTrace", "(I)Ljava/lang/Throwable;"⟩) ∈ cw := cw_t 193 (by decide +kernel) (by decide +kernel)
theorem m_194 : (Cond.selects "java/lang/IllegalArgumentException" ⟨"java/lang/Throwable", "fillInStackTrace", "()Ljava/lang/Throwable;"⟩ ⟨"java/lang/Throwable", "fillInStackTrace", "()Ljava/lang/Throwable;"⟩) ∈ cw := cw_t 194 (by decide +kernel) (by decide +kernel)
theorem m_205 : (Cond.fieldLink "java/lang/Throwable" 198 "java/lang/Throwable" "backtrace" "Ljava/lang/Object;") ∈ cw := cw_t 205 (by decide +kernel) (by decide +kernel)
theorem m_207 : (Cond.instanceMethod ⟨"java/lang/Throwable", "<init>", "()V"⟩) ∈ cw := cw_t 207 (by decide +kernel) (by decide +kernel)
theorem m_208 : (Cond.code ⟨"java/lang/Throwable", "<init>", "()V"⟩ prog_14_method_1_code 1 none) ∈ cw := cw_t 208 (by decide +kernel) (by decide +kernel)
theorem m_209 : (Cond.methodLink "java/lang/Throwable" 1 objectInit) ∈ cw := cw_t 209 (by decide +kernel) (by decide +kernel)
theorem m_210 : (Cond.fieldLink "java/lang/Throwable" 13 "java/lang/Throwable" "UNASSIGNED_STACK" "[Ljava/lang/StackTraceElement;") ∈ cw := cw_t 210 (by decide +kernel) (by decide +kernel)
theorem m_212 : (Cond.fieldLink "java/lang/Throwable" 20 "java/lang/Throwable" "SUPPRESSED_SENTINEL" "Ljava/util/List;") ∈ cw := cw_t 212 (by decide +kernel) (by decide +kernel)
theorem m_214 : (Cond.methodLink "java/lang/Throwable" 27 ⟨"java/lang/Throwable", "fillInStackTrace", "()Ljava/lang/Throwable;"⟩) ∈ cw := cw_t 214 (by decide +kernel) (by decide +kernel)
theorem m_215 : (Cond.instanceMethod ⟨"java/lang/Throwable", "fillInStackTrace", "()Ljava/lang/Throwable;"⟩) ∈ cw := cw_t 215 (by decide +kernel) (by decide +kernel)
theorem m_217 : (Cond.selects "java/lang/IllegalStateException" ⟨"java/lang/Throwable", "fillInStackTrace", "()Ljava/lang/Throwable;"⟩ ⟨"java/lang/Throwable", "fillInStackTrace", "()Ljava/lang/Throwable;"⟩) ∈ cw := cw_t 217 (by decide +kernel) (by decide +kernel)
theorem m_218 : (Cond.selects "java/lang/IndexOutOfBoundsException" ⟨"java/lang/Throwable", "fillInStackTrace", "()Ljava/lang/Throwable;"⟩ ⟨"java/lang/Throwable", "fillInStackTrace", "()Ljava/lang/Throwable;"⟩) ∈ cw := cw_t 218 (by decide +kernel) (by decide +kernel)
theorem m_220 : (Cond.methodLink "java/lang/Throwable" 202 ⟨"java/lang/Throwable", "fillInStackTrace", "(I)Ljava/lang/Throwable;"⟩) ∈ cw := cw_t 220 (by decide +kernel) (by decide +kernel)
theorem m_222 : (Cond.instanceMethod ⟨"java/lang/Throwable", "fillInStackTrace", "(I)Ljava/lang/Throwable;"⟩) ∈ cw := cw_t 222 (by decide +kernel) (by decide +kernel)
theorem m_223 : (Cond.instantiable "java/lang/Throwable" 6) ∈ cw := cw_t 223 (by decide +kernel) (by decide +kernel)
theorem m_226 : (Cond.methodLink RC 59 ⟨"java/lang/IllegalArgumentException", "<init>", "(Ljava/lang/String;)V"⟩) ∈ cw := cw_t 226 (by decide +kernel) (by decide +kernel)
theorem m_227 : (Cond.instanceMethod ⟨"java/lang/IllegalArgumentException", "<init>", "(Ljava/lang/String;)V"⟩) ∈ cw := cw_t 227 (by decide +kernel) (by decide +kernel)
theorem m_228 : (Cond.code ⟨"java/lang/IllegalArgumentException", "<init>", "(Ljava/lang/String;)V"⟩ prog_6_method_2_code 2 none) ∈ cw := cw_t 228 (by decide +kernel) (by decide +kernel)
theorem m_229 : (Cond.methodLink "java/lang/IllegalArgumentException" 7 ⟨"java/lang/RuntimeException", "<init>", "(Ljava/lang/String;)V"⟩) ∈ cw := cw_t 229 (by decide +kernel) (by decide +kernel)
theorem m_230 : (Cond.instanceMethod ⟨"java/lang/RuntimeException", "<init>", "(Ljava/lang/String;)V"⟩) ∈ cw := cw_t 230 (by decide +kernel) (by decide +kernel)
theorem m_231 : (Cond.code ⟨"java/lang/RuntimeException", "<init>", "(Ljava/lang/String;)V"⟩ prog_12_method_2_code 2 none) ∈ cw := cw_t 231 (by decide +kernel) (by decide +kernel)
theorem m_232 : (Cond.methodLink "java/lang/RuntimeException" 7 ⟨"java/lang/Exception", "<init>", "(Ljava/lang/String;)V"⟩) ∈ cw := cw_t 232 (by decide +kernel) (by decide +kernel)
theorem m_233 : (Cond.instanceMethod ⟨"java/lang/Exception", "<init>", "(Ljava/lang/String;)V"⟩) ∈ cw := cw_t 233 (by decide +kernel) (by decide +kernel)
theorem m_234 : (Cond.code ⟨"java/lang/Exception", "<init>", "(Ljava/lang/String;)V"⟩ prog_5_method_2_code 2 none) ∈ cw := cw_t 234 (by decide +kernel) (by decide +kernel)
theorem m_235 : (Cond.methodLink "java/lang/Exception" 7 ⟨"java/lang/Throwable", "<init>", "(Ljava/lang/String;)V"⟩) ∈ cw := cw_t 235 (by decide +kernel) (by decide +kernel)
theorem m_236 : (Cond.instanceMethod ⟨"java/lang/Throwable", "<init>", "(Ljava/lang/String;)V"⟩) ∈ cw := cw_t 236 (by decide +kernel) (by decide +kernel)
theorem m_237 : (Cond.code ⟨"java/lang/Throwable", "<init>", "(Ljava/lang/String;)V"⟩ prog_14_method_2_code 2 none) ∈ cw := cw_t 237 (by decide +kernel) (by decide +kernel)
theorem m_238 : (Cond.fieldLink "java/lang/Throwable" 198 "java/lang/Throwable" "backtrace" "Ljava/lang/Object;") ∈ cw := cw_t 238 (by decide +kernel) (by decide +kernel)
theorem m_239 : (Cond.fieldLink "java/lang/Throwable" 31 "java/lang/Throwable" "detailMessage" "Ljava/lang/String;") ∈ cw := cw_t 239 (by decide +kernel) (by decide +kernel)
theorem m_240 : (Cond.fieldLink "java/lang/Throwable" 7 "java/lang/Throwable" "cause" "Ljava/lang/Throwable;") ∈ cw := cw_t 240 (by decide +kernel) (by decide +kernel)
theorem m_241 : (Cond.fieldLink "java/lang/Throwable" 17 "java/lang/Throwable" "stackTrace" "[Ljava/lang/StackTraceElement;") ∈ cw := cw_t 241 (by decide +kernel) (by decide +kernel)
theorem m_242 : (Cond.fieldLink "java/lang/Throwable" 24 "java/lang/Throwable" "suppressedExceptions" "Ljava/util/List;") ∈ cw := cw_t 242 (by decide +kernel) (by decide +kernel)
theorem m_251 : (Cond.arrayClass .byte) ∈ cw := cw_t 251 (by decide +kernel) (by decide +kernel)
theorem m_253 : (Cond.classLink RC 64 "java/lang/IllegalStateException") ∈ cw := cw_t 253 (by decide +kernel) (by decide +kernel)
theorem m_254 : (Cond.instantiable "java/lang/IllegalStateException" 6) ∈ cw := cw_t 254 (by decide +kernel) (by decide +kernel)
theorem m_256 : (Cond.selects "java/lang/IllegalStateException" ⟨"java/lang/Throwable", "fillInStackTrace", "(I)Ljava/lang/Throwable;"⟩ ⟨"java/lang/Throwable", "fillInStackTrace", "(I)Ljava/lang/Throwable;"⟩) ∈ cw := cw_t 256 (by decide +kernel) (by decide +kernel)
theorem m_263 : (Cond.methodLink RC 68 ⟨"java/lang/IllegalStateException", "<init>", "(Ljava/lang/String;)V"⟩) ∈ cw := cw_t 263 (by decide +kernel) (by decide +kernel)
theorem m_264 : (Cond.instanceMethod ⟨"java/lang/IllegalStateException", "<init>", "(Ljava/lang/String;)V"⟩) ∈ cw := cw_t 264 (by decide +kernel) (by decide +kernel)
theorem m_265 : (Cond.code ⟨"java/lang/IllegalStateException", "<init>", "(Ljava/lang/String;)V"⟩ prog_7_method_2_code 2 none) ∈ cw := cw_t 265 (by decide +kernel) (by decide +kernel)
theorem m_266 : (Cond.methodLink "java/lang/IllegalStateException" 7 ⟨"java/lang/RuntimeException", "<init>", "(Ljava/lang/String;)V"⟩) ∈ cw := cw_t 266 (by decide +kernel) (by decide +kernel)
theorem m_269 : (Cond.methodLink RL 64 y_L_drop) ∈ cw := cw_t 269 (by decide +kernel) (by decide +kernel)
theorem m_270 : (Cond.static y_L_drop) ∈ cw := cw_t 270 (by decide +kernel) (by decide +kernel)
theorem m_271 : (Cond.codeWith y_L_drop method_4_code 3 (some .int) [(0, 5, 8, 21)]) ∈ cw := cw_t 271 (by decide +kernel) (by decide +kernel)
theorem m_272 : (Cond.classLink RL 21 "java/lang/IndexOutOfBoundsException") ∈ cw := cw_t 272 (by decide +kernel) (by decide +kernel)
theorem m_273 : (Cond.methodLink RL 17 y_C_drop) ∈ cw := cw_t 273 (by decide +kernel) (by decide +kernel)
theorem m_274 : (Cond.instanceMethod y_C_drop) ∈ cw := cw_t 274 (by decide +kernel) (by decide +kernel)
theorem m_275 : (Cond.selects "CellProjection" y_C_drop y_C_drop) ∈ cw := cw_t 275 (by decide +kernel) (by decide +kernel)
theorem m_276 : (Cond.code y_C_drop prog_1_method_3_code 3 none) ∈ cw := cw_t 276 (by decide +kernel) (by decide +kernel)
theorem m_277 : (Cond.methodLink RC 69 y_C_isLine) ∈ cw := cw_t 277 (by decide +kernel) (by decide +kernel)
theorem m_279 : (Cond.instanceMethod y_C_isLine) ∈ cw := cw_t 279 (by decide +kernel) (by decide +kernel)
theorem m_280 : (Cond.code y_C_isLine prog_1_method_18_code 2 (some .boolean)) ∈ cw := cw_t 280 (by decide +kernel) (by decide +kernel)
theorem m_281 : (Cond.classLink RC 72 "java/lang/IndexOutOfBoundsException") ∈ cw := cw_t 281 (by decide +kernel) (by decide +kernel)
theorem m_282 : (Cond.instantiable "java/lang/IndexOutOfBoundsException" 6) ∈ cw := cw_t 282 (by decide +kernel) (by decide +kernel)
theorem m_284 : (Cond.selects "java/lang/IndexOutOfBoundsException" ⟨"java/lang/Throwable", "fillInStackTrace", "(I)Ljava/lang/Throwable;"⟩ ⟨"java/lang/Throwable", "fillInStackTrace", "(I)Ljava/lang/Throwable;"⟩) ∈ cw := cw_t 284 (by decide +kernel) (by decide +kernel)
theorem m_291 : (Cond.methodLink RC 76 ⟨"java/lang/IndexOutOfBoundsException", "<init>", "(Ljava/lang/String;)V"⟩) ∈ cw := cw_t 291 (by decide +kernel) (by decide +kernel)
theorem m_292 : (Cond.instanceMethod ⟨"java/lang/IndexOutOfBoundsException", "<init>", "(Ljava/lang/String;)V"⟩) ∈ cw := cw_t 292 (by decide +kernel) (by decide +kernel)
theorem m_293 : (Cond.code ⟨"java/lang/IndexOutOfBoundsException", "<init>", "(Ljava/lang/String;)V"⟩ prog_8_method_2_code 2 none) ∈ cw := cw_t 293 (by decide +kernel) (by decide +kernel)
theorem m_294 : (Cond.methodLink "java/lang/IndexOutOfBoundsException" 7 ⟨"java/lang/RuntimeException", "<init>", "(Ljava/lang/String;)V"⟩) ∈ cw := cw_t 294 (by decide +kernel) (by decide +kernel)
theorem m_297 : (Cond.methodLink RL 72 y_L_cut) ∈ cw := cw_t 297 (by decide +kernel) (by decide +kernel)
theorem m_298 : (Cond.static y_L_cut) ∈ cw := cw_t 298 (by decide +kernel) (by decide +kernel)
theorem m_299 : (Cond.codeWith y_L_cut method_5_code 5 (some .int) [(0, 9, 12, 21), (0, 9, 16, 13)]) ∈ cw := cw_t 299 (by decide +kernel) (by decide +kernel)
theorem m_300 : (Cond.methodLink RL 23 y_C_cut) ∈ cw := cw_t 300 (by decide +kernel) (by decide +kernel)
theorem m_301 : (Cond.instanceMethod y_C_cut) ∈ cw := cw_t 301 (by decide +kernel) (by decide +kernel)
theorem m_302 : (Cond.selects "CellProjection" y_C_cut y_C_cut) ∈ cw := cw_t 302 (by decide +kernel) (by decide +kernel)
theorem m_303 : (Cond.code y_C_cut prog_1_method_5_code 3 (some .long)) ∈ cw := cw_t 303 (by decide +kernel) (by decide +kernel)
theorem m_305 : (Cond.methodLink RC 82 y_C_isPart) ∈ cw := cw_t 305 (by decide +kernel) (by decide +kernel)
theorem m_306 : (Cond.static y_C_isPart) ∈ cw := cw_t 306 (by decide +kernel) (by decide +kernel)
theorem m_307 : (Cond.code y_C_isPart prog_1_method_17_code 1 (some .boolean)) ∈ cw := cw_t 307 (by decide +kernel) (by decide +kernel)
theorem m_309 : (Cond.methodLink RL 76 y_L_curves) ∈ cw := cw_t 309 (by decide +kernel) (by decide +kernel)
theorem m_310 : (Cond.static y_L_curves) ∈ cw := cw_t 310 (by decide +kernel) (by decide +kernel)
theorem m_311 : (Cond.codeWith y_L_curves method_6_code 4 (some .int) [(0, 9, 12, 21)]) ∈ cw := cw_t 311 (by decide +kernel) (by decide +kernel)
theorem m_312 : (Cond.methodLink RL 27 y_C_curves) ∈ cw := cw_t 312 (by decide +kernel) (by decide +kernel)
theorem m_313 : (Cond.instanceMethod y_C_curves) ∈ cw := cw_t 313 (by decide +kernel) (by decide +kernel)
theorem m_314 : (Cond.selects "CellProjection" y_C_curves y_C_curves) ∈ cw := cw_t 314 (by decide +kernel) (by decide +kernel)
theorem m_315 : (Cond.code y_C_curves prog_1_method_6_code 2 (some .int)) ∈ cw := cw_t 315 (by decide +kernel) (by decide +kernel)
theorem m_317 : (Cond.methodLink RL 84 y_L_cell) ∈ cw := cw_t 317 (by decide +kernel) (by decide +kernel)
theorem m_318 : (Cond.static y_L_cell) ∈ cw := cw_t 318 (by decide +kernel) (by decide +kernel)
theorem m_319 : (Cond.codeWith y_L_cell method_7_code 5 (some .int) [(0, 10, 13, 21), (0, 10, 17, 13)]) ∈ cw := cw_t 319 (by decide +kernel) (by decide +kernel)
theorem m_320 : (Cond.methodLink RL 31 y_C_cell) ∈ cw := cw_t 320 (by decide +kernel) (by decide +kernel)
theorem m_321 : (Cond.instanceMethod y_C_cell) ∈ cw := cw_t 321 (by decide +kernel) (by decide +kernel)
theorem m_322 : (Cond.selects "CellProjection" y_C_cell y_C_cell) ∈ cw := cw_t 322 (by decide +kernel) (by decide +kernel)
theorem m_323 : (Cond.code y_C_cell prog_1_method_8_code 5 (some .int)) ∈ cw := cw_t 323 (by decide +kernel) (by decide +kernel)
theorem m_324 : (Cond.methodLink RC 101 y_C_isCell) ∈ cw := cw_t 324 (by decide +kernel) (by decide +kernel)
theorem m_326 : (Cond.instanceMethod y_C_isCell) ∈ cw := cw_t 326 (by decide +kernel) (by decide +kernel)
theorem m_327 : (Cond.code y_C_isCell prog_1_method_19_code 2 (some .boolean)) ∈ cw := cw_t 327 (by decide +kernel) (by decide +kernel)
theorem m_329 : (Cond.methodLink RC 106 y_C_stripOf) ∈ cw := cw_t 329 (by decide +kernel) (by decide +kernel)
theorem m_331 : (Cond.instanceMethod y_C_stripOf) ∈ cw := cw_t 331 (by decide +kernel) (by decide +kernel)
theorem m_332 : (Cond.code y_C_stripOf prog_1_method_22_code 4 (some .int)) ∈ cw := cw_t 332 (by decide +kernel) (by decide +kernel)
theorem m_334 : (Cond.methodLink RL 87 y_L_sample) ∈ cw := cw_t 334 (by decide +kernel) (by decide +kernel)
theorem m_335 : (Cond.static y_L_sample) ∈ cw := cw_t 335 (by decide +kernel) (by decide +kernel)
theorem m_336 : (Cond.codeWith y_L_sample method_8_code 6 (some .int) [(0, 11, 14, 21), (0, 11, 18, 13)]) ∈ cw := cw_t 336 (by decide +kernel) (by decide +kernel)
theorem m_337 : (Cond.methodLink RL 35 y_C_sample) ∈ cw := cw_t 337 (by decide +kernel) (by decide +kernel)
theorem m_338 : (Cond.instanceMethod y_C_sample) ∈ cw := cw_t 338 (by decide +kernel) (by decide +kernel)
theorem m_339 : (Cond.selects "CellProjection" y_C_sample y_C_sample) ∈ cw := cw_t 339 (by decide +kernel) (by decide +kernel)
theorem m_340 : (Cond.code y_C_sample prog_1_method_9_code 5 (some .long)) ∈ cw := cw_t 340 (by decide +kernel) (by decide +kernel)
theorem m_342 : (Cond.methodLink RL 90 y_L_sign) ∈ cw := cw_t 342 (by decide +kernel) (by decide +kernel)
theorem m_343 : (Cond.static y_L_sign) ∈ cw := cw_t 343 (by decide +kernel) (by decide +kernel)
theorem m_344 : (Cond.codeWith y_L_sign method_9_code 5 (some .int) [(0, 10, 13, 21)]) ∈ cw := cw_t 344 (by decide +kernel) (by decide +kernel)
theorem m_345 : (Cond.methodLink RL 39 y_C_sign) ∈ cw := cw_t 345 (by decide +kernel) (by decide +kernel)
theorem m_346 : (Cond.instanceMethod y_C_sign) ∈ cw := cw_t 346 (by decide +kernel) (by decide +kernel)
theorem m_347 : (Cond.selects "CellProjection" y_C_sign y_C_sign) ∈ cw := cw_t 347 (by decide +kernel) (by decide +kernel)
theorem m_348 : (Cond.code y_C_sign prog_1_method_10_code 4 (some .int)) ∈ cw := cw_t 348 (by decide +kernel) (by decide +kernel)
theorem m_349 : (Cond.methodLink RL 93 y_L_at) ∈ cw := cw_t 349 (by decide +kernel) (by decide +kernel)
theorem m_350 : (Cond.static y_L_at) ∈ cw := cw_t 350 (by decide +kernel) (by decide +kernel)
theorem m_351 : (Cond.codeWith y_L_at method_10_code 7 (some .int) [(0, 14, 17, 13)]) ∈ cw := cw_t 351 (by decide +kernel) (by decide +kernel)
theorem m_352 : (Cond.methodLink RL 42 y_C_at) ∈ cw := cw_t 352 (by decide +kernel) (by decide +kernel)
theorem m_353 : (Cond.instanceMethod y_C_at) ∈ cw := cw_t 353 (by decide +kernel) (by decide +kernel)
theorem m_354 : (Cond.selects "CellProjection" y_C_at y_C_at) ∈ cw := cw_t 354 (by decide +kernel) (by decide +kernel)
theorem m_355 : (Cond.code y_C_at prog_1_method_11_code 5 (some .int)) ∈ cw := cw_t 355 (by decide +kernel) (by decide +kernel)
theorem m_356 : (Cond.methodLink RC 121 y_C_isNear) ∈ cw := cw_t 356 (by decide +kernel) (by decide +kernel)
theorem m_357 : (Cond.static y_C_isNear) ∈ cw := cw_t 357 (by decide +kernel) (by decide +kernel)
theorem m_358 : (Cond.code y_C_isNear prog_1_method_16_code 1 (some .boolean)) ∈ cw := cw_t 358 (by decide +kernel) (by decide +kernel)
theorem m_361 : (Cond.methodLink RL 101 y_L_touch) ∈ cw := cw_t 361 (by decide +kernel) (by decide +kernel)
theorem m_362 : (Cond.static y_L_touch) ∈ cw := cw_t 362 (by decide +kernel) (by decide +kernel)
theorem m_363 : (Cond.codeWith y_L_touch method_11_code 5 (some .int) [(0, 17, 20, 21)]) ∈ cw := cw_t 363 (by decide +kernel) (by decide +kernel)
theorem m_364 : (Cond.methodLink RL 46 y_C_touch) ∈ cw := cw_t 364 (by decide +kernel) (by decide +kernel)
theorem m_365 : (Cond.instanceMethod y_C_touch) ∈ cw := cw_t 365 (by decide +kernel) (by decide +kernel)
theorem m_366 : (Cond.selects "CellProjection" y_C_touch y_C_touch) ∈ cw := cw_t 366 (by decide +kernel) (by decide +kernel)
theorem m_367 : (Cond.code y_C_touch prog_1_method_13_code 7 (some .boolean)) ∈ cw := cw_t 367 (by decide +kernel) (by decide +kernel)
theorem m_368 : (Cond.methodLink RC 141 y_C_reaches) ∈ cw := cw_t 368 (by decide +kernel) (by decide +kernel)
theorem m_370 : (Cond.instanceMethod y_C_reaches) ∈ cw := cw_t 370 (by decide +kernel) (by decide +kernel)
theorem m_371 : (Cond.code y_C_reaches prog_1_method_33_code 8 (some .boolean)) ∈ cw := cw_t 371 (by decide +kernel) (by decide +kernel)
theorem m_372 : (Cond.classLink RL 51 "CellProjectionModel") ∈ cw := cw_t 372 (by decide +kernel) (by decide +kernel)
theorem m_373 : (Cond.instantiable "CellProjectionModel" 15) ∈ cw := cw_t 373 (by decide +kernel) (by decide +kernel)
theorem m_374 : (Cond.methodLink RL 53 y_M_init) ∈ cw := cw_t 374 (by decide +kernel) (by decide +kernel)
theorem m_375 : (Cond.instanceMethod y_M_init) ∈ cw := cw_t 375 (by decide +kernel) (by decide +kernel)
theorem m_376 : (Cond.code y_M_init prog_4_method_1_code 1 none) ∈ cw := cw_t 376 (by decide +kernel) (by decide +kernel)
theorem m_377 : (Cond.methodLink RM 1 objectInit) ∈ cw := cw_t 377 (by decide +kernel) (by decide +kernel)
theorem m_378 : (Cond.fieldLink RM 26 "CellProjectionModel" "code" "I") ∈ cw := cw_t 378 (by decide +kernel) (by decide +kernel)
theorem m_379 : (Cond.fieldLink RM 45 "CellProjectionModel" "lines" "I") ∈ cw := cw_t 379 (by decide +kernel) (by decide +kernel)
theorem m_380 : (Cond.fieldLink RM 7 "CellProjectionModel" "numbers" "[I") ∈ cw := cw_t 380 (by decide +kernel) (by decide +kernel)
theorem m_381 : (Cond.fieldLink RM 51 "CellProjectionModel" "cuts" "I") ∈ cw := cw_t 381 (by decide +kernel) (by decide +kernel)
theorem m_382 : (Cond.fieldLink RM 13 "CellProjectionModel" "cutUp" "[J") ∈ cw := cw_t 382 (by decide +kernel) (by decide +kernel)
theorem m_383 : (Cond.fieldLink RM 17 "CellProjectionModel" "cutDown" "[J") ∈ cw := cw_t 383 (by decide +kernel) (by decide +kernel)
theorem m_384 : (Cond.fieldLink RM 69 "CellProjectionModel" "curves" "I") ∈ cw := cw_t 384 (by decide +kernel) (by decide +kernel)
theorem m_385 : (Cond.fieldLink RM 20 "CellProjectionModel" "yUp" "[J") ∈ cw := cw_t 385 (by decide +kernel) (by decide +kernel)
theorem m_386 : (Cond.fieldLink RM 23 "CellProjectionModel" "yDown" "[J") ∈ cw := cw_t 386 (by decide +kernel) (by decide +kernel)
theorem m_387 : (Cond.fieldLink RM 30 "CellProjectionModel" "up" "J") ∈ cw := cw_t 387 (by decide +kernel) (by decide +kernel)
theorem m_388 : (Cond.fieldLink RM 34 "CellProjectionModel" "down" "J") ∈ cw := cw_t 388 (by decide +kernel) (by decide +kernel)
theorem m_389 : (Cond.fieldLink RM 63 "CellProjectionModel" "xUp" "J") ∈ cw := cw_t 389 (by decide +kernel) (by decide +kernel)
theorem m_390 : (Cond.fieldLink RM 66 "CellProjectionModel" "xDown" "J") ∈ cw := cw_t 390 (by decide +kernel) (by decide +kernel)
theorem m_391 : (Cond.fieldLink RM 89 "CellProjectionModel" "strip" "I") ∈ cw := cw_t 391 (by decide +kernel) (by decide +kernel)
theorem m_392 : (Cond.fieldLink RM 92 "CellProjectionModel" "place" "I") ∈ cw := cw_t 392 (by decide +kernel) (by decide +kernel)
theorem m_424 : (Cond.methodLink RL 60 y_M_thrown) ∈ cw := cw_t 424 (by decide +kernel) (by decide +kernel)
theorem m_425 : (Cond.instanceMethod y_M_thrown) ∈ cw := cw_t 425 (by decide +kernel) (by decide +kernel)
theorem m_426 : (Cond.selects "CellProjectionModel" y_M_thrown y_M_thrown) ∈ cw := cw_t 426 (by decide +kernel) (by decide +kernel)
theorem m_427 : (Cond.code y_M_thrown prog_4_method_2_code 1 (some .int)) ∈ cw := cw_t 427 (by decide +kernel) (by decide +kernel)
theorem m_428 : (Cond.methodLink RL 59 y_M_line) ∈ cw := cw_t 428 (by decide +kernel) (by decide +kernel)
theorem m_429 : (Cond.instanceMethod y_M_line) ∈ cw := cw_t 429 (by decide +kernel) (by decide +kernel)
theorem m_430 : (Cond.selects "CellProjectionModel" y_M_line y_M_line) ∈ cw := cw_t 430 (by decide +kernel) (by decide +kernel)
theorem m_431 : (Cond.code y_M_line prog_4_method_6_code 5 (some .int)) ∈ cw := cw_t 431 (by decide +kernel) (by decide +kernel)
theorem m_432 : (Cond.constantLong RM 37 (-6)) ∈ cw := cw_t 432 (by decide +kernel) (by decide +kernel)
theorem m_433 : (Cond.constantLong RM 39 6) ∈ cw := cw_t 433 (by decide +kernel) (by decide +kernel)
theorem m_434 : (Cond.methodLink RM 41 y_M_in) ∈ cw := cw_t 434 (by decide +kernel) (by decide +kernel)
theorem m_435 : (Cond.static y_M_in) ∈ cw := cw_t 435 (by decide +kernel) (by decide +kernel)
theorem m_436 : (Cond.code y_M_in prog_4_method_4_code 6 (some .boolean)) ∈ cw := cw_t 436 (by decide +kernel) (by decide +kernel)
theorem m_437 : (Cond.methodLink RM 48 y_M_look) ∈ cw := cw_t 437 (by decide +kernel) (by decide +kernel)
theorem m_439 : (Cond.instanceMethod y_M_look) ∈ cw := cw_t 439 (by decide +kernel) (by decide +kernel)
theorem m_440 : (Cond.code y_M_look prog_4_method_9_code 4 none) ∈ cw := cw_t 440 (by decide +kernel) (by decide +kernel)
theorem m_441 : (Cond.methodLink RM 54 y_M_lowest) ∈ cw := cw_t 441 (by decide +kernel) (by decide +kernel)
theorem m_443 : (Cond.instanceMethod y_M_lowest) ∈ cw := cw_t 443 (by decide +kernel) (by decide +kernel)
theorem m_444 : (Cond.code y_M_lowest prog_4_method_5_code 11 none) ∈ cw := cw_t 444 (by decide +kernel) (by decide +kernel)
theorem m_445 : (Cond.methodLink RM 58 y_M_keepCut) ∈ cw := cw_t 445 (by decide +kernel) (by decide +kernel)
theorem m_447 : (Cond.instanceMethod y_M_keepCut) ∈ cw := cw_t 447 (by decide +kernel) (by decide +kernel)
theorem m_448 : (Cond.code y_M_keepCut prog_4_method_10_code 3 none) ∈ cw := cw_t 448 (by decide +kernel) (by decide +kernel)
theorem m_449 : (Cond.methodLink RL 67 y_M_drop) ∈ cw := cw_t 449 (by decide +kernel) (by decide +kernel)
theorem m_450 : (Cond.instanceMethod y_M_drop) ∈ cw := cw_t 450 (by decide +kernel) (by decide +kernel)
theorem m_451 : (Cond.selects "CellProjectionModel" y_M_drop y_M_drop) ∈ cw := cw_t 451 (by decide +kernel) (by decide +kernel)
theorem m_452 : (Cond.code y_M_drop prog_4_method_7_code 3 none) ∈ cw := cw_t 452 (by decide +kernel) (by decide +kernel)
theorem m_453 : (Cond.methodLink RL 107 y_M_lines) ∈ cw := cw_t 453 (by decide +kernel) (by decide +kernel)
theorem m_454 : (Cond.instanceMethod y_M_lines) ∈ cw := cw_t 454 (by decide +kernel) (by decide +kernel)
theorem m_455 : (Cond.selects "CellProjectionModel" y_M_lines y_M_lines) ∈ cw := cw_t 455 (by decide +kernel) (by decide +kernel)
theorem m_456 : (Cond.code y_M_lines prog_4_method_8_code 1 (some .int)) ∈ cw := cw_t 456 (by decide +kernel) (by decide +kernel)
theorem m_457 : (Cond.methodLink RL 71 y_M_cuts) ∈ cw := cw_t 457 (by decide +kernel) (by decide +kernel)
theorem m_458 : (Cond.instanceMethod y_M_cuts) ∈ cw := cw_t 458 (by decide +kernel) (by decide +kernel)
theorem m_459 : (Cond.selects "CellProjectionModel" y_M_cuts y_M_cuts) ∈ cw := cw_t 459 (by decide +kernel) (by decide +kernel)
theorem m_460 : (Cond.code y_M_cuts prog_4_method_11_code 1 (some .int)) ∈ cw := cw_t 460 (by decide +kernel) (by decide +kernel)
theorem m_461 : (Cond.methodLink RL 75 y_M_cut) ∈ cw := cw_t 461 (by decide +kernel) (by decide +kernel)
theorem m_462 : (Cond.instanceMethod y_M_cut) ∈ cw := cw_t 462 (by decide +kernel) (by decide +kernel)
theorem m_463 : (Cond.selects "CellProjectionModel" y_M_cut y_M_cut) ∈ cw := cw_t 463 (by decide +kernel) (by decide +kernel)
theorem m_464 : (Cond.code y_M_cut prog_4_method_13_code 3 (some .long)) ∈ cw := cw_t 464 (by decide +kernel) (by decide +kernel)
theorem m_465 : (Cond.methodLink RL 79 y_M_curves) ∈ cw := cw_t 465 (by decide +kernel) (by decide +kernel)
theorem m_466 : (Cond.instanceMethod y_M_curves) ∈ cw := cw_t 466 (by decide +kernel) (by decide +kernel)
theorem m_467 : (Cond.selects "CellProjectionModel" y_M_curves y_M_curves) ∈ cw := cw_t 467 (by decide +kernel) (by decide +kernel)
theorem m_468 : (Cond.code y_M_curves prog_4_method_19_code 2 (some .int)) ∈ cw := cw_t 468 (by decide +kernel) (by decide +kernel)
theorem m_469 : (Cond.methodLink RM 86 y_M_curvesOf) ∈ cw := cw_t 469 (by decide +kernel) (by decide +kernel)
theorem m_471 : (Cond.instanceMethod y_M_curvesOf) ∈ cw := cw_t 471 (by decide +kernel) (by decide +kernel)
theorem m_472 : (Cond.code y_M_curvesOf prog_4_method_18_code 2 none) ∈ cw := cw_t 472 (by decide +kernel) (by decide +kernel)
theorem m_473 : (Cond.methodLink RM 80 y_M_sampleX) ∈ cw := cw_t 473 (by decide +kernel) (by decide +kernel)
theorem m_475 : (Cond.instanceMethod y_M_sampleX) ∈ cw := cw_t 475 (by decide +kernel) (by decide +kernel)
theorem m_476 : (Cond.code y_M_sampleX prog_4_method_14_code 3 none) ∈ cw := cw_t 476 (by decide +kernel) (by decide +kernel)
theorem m_477 : (Cond.constantLong RM 61 2) ∈ cw := cw_t 477 (by decide +kernel) (by decide +kernel)
theorem m_478 : (Cond.methodLink RM 83 y_M_findCurves) ∈ cw := cw_t 478 (by decide +kernel) (by decide +kernel)
theorem m_480 : (Cond.instanceMethod y_M_findCurves) ∈ cw := cw_t 480 (by decide +kernel) (by decide +kernel)
theorem m_481 : (Cond.code y_M_findCurves prog_4_method_16_code 4 none) ∈ cw := cw_t 481 (by decide +kernel) (by decide +kernel)
theorem m_482 : (Cond.methodLink RM 72 y_M_lineAt) ∈ cw := cw_t 482 (by decide +kernel) (by decide +kernel)
theorem m_484 : (Cond.instanceMethod y_M_lineAt) ∈ cw := cw_t 484 (by decide +kernel) (by decide +kernel)
theorem m_485 : (Cond.code y_M_lineAt prog_4_method_15_code 2 none) ∈ cw := cw_t 485 (by decide +kernel) (by decide +kernel)
theorem m_486 : (Cond.methodLink RM 76 y_M_below) ∈ cw := cw_t 486 (by decide +kernel) (by decide +kernel)
theorem m_488 : (Cond.instanceMethod y_M_below) ∈ cw := cw_t 488 (by decide +kernel) (by decide +kernel)
theorem m_489 : (Cond.code y_M_below prog_4_method_17_code 2 (some .int)) ∈ cw := cw_t 489 (by decide +kernel) (by decide +kernel)
theorem m_490 : (Cond.methodLink RL 83 y_M_total) ∈ cw := cw_t 490 (by decide +kernel) (by decide +kernel)
theorem m_491 : (Cond.instanceMethod y_M_total) ∈ cw := cw_t 491 (by decide +kernel) (by decide +kernel)
theorem m_492 : (Cond.selects "CellProjectionModel" y_M_total y_M_total) ∈ cw := cw_t 492 (by decide +kernel) (by decide +kernel)
theorem m_493 : (Cond.code y_M_total prog_4_method_20_code 3 (some .int)) ∈ cw := cw_t 493 (by decide +kernel) (by decide +kernel)
theorem m_494 : (Cond.methodLink RL 86 y_M_cell) ∈ cw := cw_t 494 (by decide +kernel) (by decide +kernel)
theorem m_495 : (Cond.instanceMethod y_M_cell) ∈ cw := cw_t 495 (by decide +kernel) (by decide +kernel)
theorem m_496 : (Cond.selects "CellProjectionModel" y_M_cell y_M_cell) ∈ cw := cw_t 496 (by decide +kernel) (by decide +kernel)
theorem m_497 : (Cond.code y_M_cell prog_4_method_22_code 3 (some .int)) ∈ cw := cw_t 497 (by decide +kernel) (by decide +kernel)
theorem m_498 : (Cond.methodLink RM 95 y_M_isCell) ∈ cw := cw_t 498 (by decide +kernel) (by decide +kernel)
theorem m_500 : (Cond.instanceMethod y_M_isCell) ∈ cw := cw_t 500 (by decide +kernel) (by decide +kernel)
theorem m_501 : (Cond.code y_M_isCell prog_4_method_21_code 4 (some .boolean)) ∈ cw := cw_t 501 (by decide +kernel) (by decide +kernel)
theorem m_502 : (Cond.methodLink RL 89 y_M_sample) ∈ cw := cw_t 502 (by decide +kernel) (by decide +kernel)
theorem m_503 : (Cond.instanceMethod y_M_sample) ∈ cw := cw_t 503 (by decide +kernel) (by decide +kernel)
theorem m_504 : (Cond.selects "CellProjectionModel" y_M_sample y_M_sample) ∈ cw := cw_t 504 (by decide +kernel) (by decide +kernel)
theorem m_505 : (Cond.code y_M_sample prog_4_method_24_code 4 (some .long)) ∈ cw := cw_t 505 (by decide +kernel) (by decide +kernel)
theorem m_506 : (Cond.methodLink RM 99 y_M_sampleY) ∈ cw := cw_t 506 (by decide +kernel) (by decide +kernel)
theorem m_508 : (Cond.instanceMethod y_M_sampleY) ∈ cw := cw_t 508 (by decide +kernel) (by decide +kernel)
theorem m_509 : (Cond.code y_M_sampleY prog_4_method_23_code 2 none) ∈ cw := cw_t 509 (by decide +kernel) (by decide +kernel)
theorem m_510 : (Cond.methodLink RM 102 y_M_told) ∈ cw := cw_t 510 (by decide +kernel) (by decide +kernel)
theorem m_512 : (Cond.instanceMethod y_M_told) ∈ cw := cw_t 512 (by decide +kernel) (by decide +kernel)
theorem m_513 : (Cond.code y_M_told prog_4_method_12_code 2 (some .long)) ∈ cw := cw_t 513 (by decide +kernel) (by decide +kernel)
theorem m_514 : (Cond.methodLink RL 92 y_M_sign) ∈ cw := cw_t 514 (by decide +kernel) (by decide +kernel)
theorem m_515 : (Cond.instanceMethod y_M_sign) ∈ cw := cw_t 515 (by decide +kernel) (by decide +kernel)
theorem m_516 : (Cond.selects "CellProjectionModel" y_M_sign y_M_sign) ∈ cw := cw_t 516 (by decide +kernel) (by decide +kernel)
theorem m_517 : (Cond.code y_M_sign prog_4_method_26_code 3 (some .int)) ∈ cw := cw_t 517 (by decide +kernel) (by decide +kernel)
theorem m_518 : (Cond.methodLink RM 106 y_M_signAt) ∈ cw := cw_t 518 (by decide +kernel) (by decide +kernel)
theorem m_520 : (Cond.instanceMethod y_M_signAt) ∈ cw := cw_t 520 (by decide +kernel) (by decide +kernel)
theorem m_521 : (Cond.code y_M_signAt prog_4_method_25_code 4 (some .int)) ∈ cw := cw_t 521 (by decide +kernel) (by decide +kernel)
theorem m_522 : (Cond.methodLink RL 96 y_M_at) ∈ cw := cw_t 522 (by decide +kernel) (by decide +kernel)
theorem m_523 : (Cond.instanceMethod y_M_at) ∈ cw := cw_t 523 (by decide +kernel) (by decide +kernel)
theorem m_524 : (Cond.selects "CellProjectionModel" y_M_at y_M_at) ∈ cw := cw_t 524 (by decide +kernel) (by decide +kernel)
theorem m_525 : (Cond.code y_M_at prog_4_method_27_code 9 (some .int)) ∈ cw := cw_t 525 (by decide +kernel) (by decide +kernel)
theorem m_526 : (Cond.constantLong RM 110 (-100)) ∈ cw := cw_t 526 (by decide +kernel) (by decide +kernel)
theorem m_527 : (Cond.constantLong RM 112 100) ∈ cw := cw_t 527 (by decide +kernel) (by decide +kernel)
theorem m_528 : (Cond.methodLink RL 100 y_M_find) ∈ cw := cw_t 528 (by decide +kernel) (by decide +kernel)
theorem m_529 : (Cond.instanceMethod y_M_find) ∈ cw := cw_t 529 (by decide +kernel) (by decide +kernel)
theorem m_530 : (Cond.selects "CellProjectionModel" y_M_find y_M_find) ∈ cw := cw_t 530 (by decide +kernel) (by decide +kernel)
theorem m_531 : (Cond.code y_M_find prog_4_method_28_code 4 (some .int)) ∈ cw := cw_t 531 (by decide +kernel) (by decide +kernel)
theorem m_532 : (Cond.methodLink RM 114 y_M_isSo) ∈ cw := cw_t 532 (by decide +kernel) (by decide +kernel)
theorem m_534 : (Cond.instanceMethod y_M_isSo) ∈ cw := cw_t 534 (by decide +kernel) (by decide +kernel)
theorem m_535 : (Cond.code y_M_isSo prog_4_method_29_code 4 (some .boolean)) ∈ cw := cw_t 535 (by decide +kernel) (by decide +kernel)
theorem m_536 : (Cond.methodLink RL 103 y_M_touch) ∈ cw := cw_t 536 (by decide +kernel) (by decide +kernel)
theorem m_537 : (Cond.instanceMethod y_M_touch) ∈ cw := cw_t 537 (by decide +kernel) (by decide +kernel)
theorem m_538 : (Cond.selects "CellProjectionModel" y_M_touch y_M_touch) ∈ cw := cw_t 538 (by decide +kernel) (by decide +kernel)
theorem m_539 : (Cond.code y_M_touch prog_4_method_32_code 13 (some .boolean)) ∈ cw := cw_t 539 (by decide +kernel) (by decide +kernel)
theorem m_540 : (Cond.constantLong RM 121 (-1)) ∈ cw := cw_t 540 (by decide +kernel) (by decide +kernel)
theorem m_541 : (Cond.methodLink RM 123 y_M_ends) ∈ cw := cw_t 541 (by decide +kernel) (by decide +kernel)
theorem m_543 : (Cond.instanceMethod y_M_ends) ∈ cw := cw_t 543 (by decide +kernel) (by decide +kernel)
theorem m_544 : (Cond.code y_M_ends prog_4_method_31_code 6 (some .int)) ∈ cw := cw_t 544 (by decide +kernel) (by decide +kernel)
theorem m_545 : (Cond.methodLink RM 117 y_M_lineOf) ∈ cw := cw_t 545 (by decide +kernel) (by decide +kernel)
theorem m_547 : (Cond.instanceMethod y_M_lineOf) ∈ cw := cw_t 547 (by decide +kernel) (by decide +kernel)
theorem m_548 : (Cond.code y_M_lineOf prog_4_method_30_code 4 (some .int)) ∈ cw := cw_t 548 (by decide +kernel) (by decide +kernel)
theorem s_0 : Cond.selects RC y_C_rebuild y_C_rebuild ∈ cw := cw_s 0 (by decide +kernel) (by decide +kernel)
theorem s_1 : Cond.selects RC y_C_gatherCuts y_C_gatherCuts ∈ cw := cw_s 1 (by decide +kernel) (by decide +kernel)
theorem s_2 : Cond.selects RC y_C_addCut y_C_addCut ∈ cw := cw_s 2 (by decide +kernel) (by decide +kernel)
theorem s_3 : Cond.selects RC y_C_stripCount y_C_stripCount ∈ cw := cw_s 3 (by decide +kernel) (by decide +kernel)
theorem s_4 : Cond.selects RC y_C_layStrip y_C_layStrip ∈ cw := cw_s 4 (by decide +kernel) (by decide +kernel)
theorem s_5 : Cond.selects RC y_C_measureHeights y_C_measureHeights ∈ cw := cw_s 5 (by decide +kernel) (by decide +kernel)
theorem s_6 : Cond.selects RC y_C_heightAbove y_C_heightAbove ∈ cw := cw_s 6 (by decide +kernel) (by decide +kernel)
theorem s_7 : Cond.selects RC y_C_heightBelow y_C_heightBelow ∈ cw := cw_s 7 (by decide +kernel) (by decide +kernel)
theorem s_8 : Cond.selects RC y_C_cellsOf y_C_cellsOf ∈ cw := cw_s 8 (by decide +kernel) (by decide +kernel)
theorem s_9 : Cond.selects RC y_C_hasSigns y_C_hasSigns ∈ cw := cw_s 9 (by decide +kernel) (by decide +kernel)
theorem s_10 : Cond.selects RC y_C_signIn y_C_signIn ∈ cw := cw_s 10 (by decide +kernel) (by decide +kernel)
theorem s_12 : Cond.selects RC y_C_isLine y_C_isLine ∈ cw := cw_s 12 (by decide +kernel) (by decide +kernel)
theorem s_13 : Cond.selects RC y_C_isCell y_C_isCell ∈ cw := cw_s 13 (by decide +kernel) (by decide +kernel)
theorem s_14 : Cond.selects RC y_C_stripOf y_C_stripOf ∈ cw := cw_s 14 (by decide +kernel) (by decide +kernel)
theorem s_15 : Cond.selects RC y_C_reaches y_C_reaches ∈ cw := cw_s 15 (by decide +kernel) (by decide +kernel)
theorem s_16 : Cond.selects RM y_M_look y_M_look ∈ cw := cw_s 16 (by decide +kernel) (by decide +kernel)
theorem s_17 : Cond.selects RM y_M_lowest y_M_lowest ∈ cw := cw_s 17 (by decide +kernel) (by decide +kernel)
theorem s_18 : Cond.selects RM y_M_keepCut y_M_keepCut ∈ cw := cw_s 18 (by decide +kernel) (by decide +kernel)
theorem s_19 : Cond.selects RM y_M_curvesOf y_M_curvesOf ∈ cw := cw_s 19 (by decide +kernel) (by decide +kernel)
theorem s_20 : Cond.selects RM y_M_sampleX y_M_sampleX ∈ cw := cw_s 20 (by decide +kernel) (by decide +kernel)
theorem s_21 : Cond.selects RM y_M_findCurves y_M_findCurves ∈ cw := cw_s 21 (by decide +kernel) (by decide +kernel)
theorem s_22 : Cond.selects RM y_M_lineAt y_M_lineAt ∈ cw := cw_s 22 (by decide +kernel) (by decide +kernel)
theorem s_23 : Cond.selects RM y_M_below y_M_below ∈ cw := cw_s 23 (by decide +kernel) (by decide +kernel)
theorem s_24 : Cond.selects RM y_M_isCell y_M_isCell ∈ cw := cw_s 24 (by decide +kernel) (by decide +kernel)
theorem s_25 : Cond.selects RM y_M_sampleY y_M_sampleY ∈ cw := cw_s 25 (by decide +kernel) (by decide +kernel)
theorem s_26 : Cond.selects RM y_M_told y_M_told ∈ cw := cw_s 26 (by decide +kernel) (by decide +kernel)
theorem s_27 : Cond.selects RM y_M_signAt y_M_signAt ∈ cw := cw_s 27 (by decide +kernel) (by decide +kernel)
theorem s_28 : Cond.selects RM y_M_isSo y_M_isSo ∈ cw := cw_s 28 (by decide +kernel) (by decide +kernel)
theorem s_29 : Cond.selects RM y_M_ends y_M_ends ∈ cw := cw_s 29 (by decide +kernel) (by decide +kernel)
theorem s_30 : Cond.selects RM y_M_lineOf y_M_lineOf ∈ cw := cw_s 30 (by decide +kernel) (by decide +kernel)
theorem i_K : ∀ w ∈ u_ws RK TK 3, w ∈ cw := by decide +kernel
theorem i_C : ∀ w ∈ u_ws RC TC 10, w ∈ cw := by decide +kernel
theorem i_M : ∀ w ∈ u_ws RM TM 15, w ∈ cw := by decide +kernel
end
section
theorem d_K_init_0 : decode prog_2_method_1_code 0 = .ok (.aload_n 0, 1) := by decide +kernel
theorem d_K_init_1 : decode prog_2_method_1_code 1 = .ok (.invokespecial 3, 3) := by decide +kernel
theorem d_K_init_4 : decode prog_2_method_1_code 4 = .ok (.aload_n 0, 1) := by decide +kernel
theorem d_K_init_5 : decode prog_2_method_1_code 5 = .ok (.bipush 15, 2) := by decide +kernel
theorem d_K_init_7 : decode prog_2_method_1_code 7 = .ok (.newarray .long, 2) := by decide +kernel
theorem d_K_init_9 : decode prog_2_method_1_code 9 = .ok (.putfield 9, 3) := by decide +kernel
theorem d_K_init_12 : decode prog_2_method_1_code 12 = .ok (.aload_n 0, 1) := by decide +kernel
theorem d_K_init_13 : decode prog_2_method_1_code 13 = .ok (.bipush 15, 2) := by decide +kernel
theorem d_K_init_15 : decode prog_2_method_1_code 15 = .ok (.newarray .long, 2) := by decide +kernel
theorem d_K_init_17 : decode prog_2_method_1_code 17 = .ok (.putfield 15, 3) := by decide +kernel
theorem d_K_init_20 : decode prog_2_method_1_code 20 = .ok (.aload_n 0, 1) := by decide +kernel
theorem d_K_init_21 : decode prog_2_method_1_code 21 = .ok (.iconst 0, 1) := by decide +kernel
theorem d_K_init_22 : decode prog_2_method_1_code 22 = .ok (.putfield 18, 3) := by decide +kernel
theorem d_K_init_25 : decode prog_2_method_1_code 25 = .ok (.return_, 1) := by decide +kernel
theorem d_K_insert_0 : decode prog_2_method_2_code 0 = .ok (.aload_n 0, 1) := by decide +kernel
theorem d_K_insert_1 : decode prog_2_method_2_code 1 = .ok (.lload_n 1, 1) := by decide +kernel
theorem d_K_insert_2 : decode prog_2_method_2_code 2 = .ok (.lload_n 3, 1) := by decide +kernel
theorem d_K_insert_3 : decode prog_2_method_2_code 3 = .ok (.invokevirtual 22, 3) := by decide +kernel
theorem d_K_insert_6 : decode prog_2_method_2_code 6 = .ok (.istore 5, 2) := by decide +kernel
theorem d_K_insert_8 : decode prog_2_method_2_code 8 = .ok (.iload 5, 2) := by decide +kernel
theorem d_K_insert_10 : decode prog_2_method_2_code 10 = .ok (.iconst 2, 1) := by decide +kernel
theorem d_K_insert_11 : decode prog_2_method_2_code 11 = .ok (.irem, 1) := by decide +kernel
theorem d_K_insert_12 : decode prog_2_method_2_code 12 = .ok (.iconst 1, 1) := by decide +kernel
theorem d_K_insert_13 : decode prog_2_method_2_code 13 = .ok (.if_icmp .eq 12, 3) := by decide +kernel
theorem d_K_insert_16 : decode prog_2_method_2_code 16 = .ok (.aload_n 0, 1) := by decide +kernel
theorem d_K_insert_17 : decode prog_2_method_2_code 17 = .ok (.getfield 18, 3) := by decide +kernel
theorem d_K_insert_20 : decode prog_2_method_2_code 20 = .ok (.bipush 15, 2) := by decide +kernel
theorem d_K_insert_22 : decode prog_2_method_2_code 22 = .ok (.if_icmp .lt 4, 3) := by decide +kernel
theorem d_K_insert_25 : decode prog_2_method_2_code 25 = .ok (.return_, 1) := by decide +kernel
theorem d_K_insert_26 : decode prog_2_method_2_code 26 = .ok (.iload 5, 2) := by decide +kernel
theorem d_K_insert_28 : decode prog_2_method_2_code 28 = .ok (.iconst 2, 1) := by decide +kernel
theorem d_K_insert_29 : decode prog_2_method_2_code 29 = .ok (.idiv, 1) := by decide +kernel
theorem d_K_insert_30 : decode prog_2_method_2_code 30 = .ok (.istore 6, 2) := by decide +kernel
theorem d_K_insert_32 : decode prog_2_method_2_code 32 = .ok (.aload_n 0, 1) := by decide +kernel
theorem d_K_insert_33 : decode prog_2_method_2_code 33 = .ok (.getfield 18, 3) := by decide +kernel
theorem d_K_insert_36 : decode prog_2_method_2_code 36 = .ok (.istore 7, 2) := by decide +kernel
theorem d_K_insert_38 : decode prog_2_method_2_code 38 = .ok (.iload 7, 2) := by decide +kernel
theorem d_K_insert_40 : decode prog_2_method_2_code 40 = .ok (.iload 6, 2) := by decide +kernel
theorem d_K_insert_42 : decode prog_2_method_2_code 42 = .ok (.if_icmp .le 41, 3) := by decide +kernel
theorem d_K_insert_45 : decode prog_2_method_2_code 45 = .ok (.aload_n 0, 1) := by decide +kernel
theorem d_K_insert_46 : decode prog_2_method_2_code 46 = .ok (.getfield 9, 3) := by decide +kernel
theorem d_K_insert_49 : decode prog_2_method_2_code 49 = .ok (.iload 7, 2) := by decide +kernel
theorem d_K_insert_51 : decode prog_2_method_2_code 51 = .ok (.aload_n 0, 1) := by decide +kernel
theorem d_K_insert_52 : decode prog_2_method_2_code 52 = .ok (.getfield 9, 3) := by decide +kernel
theorem d_K_insert_55 : decode prog_2_method_2_code 55 = .ok (.iload 7, 2) := by decide +kernel
theorem d_K_insert_57 : decode prog_2_method_2_code 57 = .ok (.iconst 1, 1) := by decide +kernel
theorem d_K_insert_58 : decode prog_2_method_2_code 58 = .ok (.isub, 1) := by decide +kernel
theorem d_K_insert_59 : decode prog_2_method_2_code 59 = .ok (.laload, 1) := by decide +kernel
theorem d_K_insert_60 : decode prog_2_method_2_code 60 = .ok (.lastore, 1) := by decide +kernel
theorem d_K_insert_61 : decode prog_2_method_2_code 61 = .ok (.aload_n 0, 1) := by decide +kernel
theorem d_K_insert_62 : decode prog_2_method_2_code 62 = .ok (.getfield 15, 3) := by decide +kernel
theorem d_K_insert_65 : decode prog_2_method_2_code 65 = .ok (.iload 7, 2) := by decide +kernel
theorem d_K_insert_67 : decode prog_2_method_2_code 67 = .ok (.aload_n 0, 1) := by decide +kernel
theorem d_K_insert_68 : decode prog_2_method_2_code 68 = .ok (.getfield 15, 3) := by decide +kernel
theorem d_K_insert_71 : decode prog_2_method_2_code 71 = .ok (.iload 7, 2) := by decide +kernel
theorem d_K_insert_73 : decode prog_2_method_2_code 73 = .ok (.iconst 1, 1) := by decide +kernel
theorem d_K_insert_74 : decode prog_2_method_2_code 74 = .ok (.isub, 1) := by decide +kernel
theorem d_K_insert_75 : decode prog_2_method_2_code 75 = .ok (.laload, 1) := by decide +kernel
theorem d_K_insert_76 : decode prog_2_method_2_code 76 = .ok (.lastore, 1) := by decide +kernel
theorem d_K_insert_77 : decode prog_2_method_2_code 77 = .ok (.iinc 7 (-1), 3) := by decide +kernel
theorem d_K_insert_80 : decode prog_2_method_2_code 80 = .ok (.goto (-42), 3) := by decide +kernel
theorem d_K_insert_83 : decode prog_2_method_2_code 83 = .ok (.aload_n 0, 1) := by decide +kernel
theorem d_K_insert_84 : decode prog_2_method_2_code 84 = .ok (.getfield 9, 3) := by decide +kernel
theorem d_K_insert_87 : decode prog_2_method_2_code 87 = .ok (.iload 6, 2) := by decide +kernel
theorem d_K_insert_89 : decode prog_2_method_2_code 89 = .ok (.lload_n 1, 1) := by decide +kernel
theorem d_K_insert_90 : decode prog_2_method_2_code 90 = .ok (.lastore, 1) := by decide +kernel
theorem d_K_insert_91 : decode prog_2_method_2_code 91 = .ok (.aload_n 0, 1) := by decide +kernel
theorem d_K_insert_92 : decode prog_2_method_2_code 92 = .ok (.getfield 15, 3) := by decide +kernel
theorem d_K_insert_95 : decode prog_2_method_2_code 95 = .ok (.iload 6, 2) := by decide +kernel
theorem d_K_insert_97 : decode prog_2_method_2_code 97 = .ok (.lload_n 3, 1) := by decide +kernel
theorem d_K_insert_98 : decode prog_2_method_2_code 98 = .ok (.lastore, 1) := by decide +kernel
theorem d_K_insert_99 : decode prog_2_method_2_code 99 = .ok (.aload_n 0, 1) := by decide +kernel
theorem d_K_insert_100 : decode prog_2_method_2_code 100 = .ok (.dup, 1) := by decide +kernel
theorem d_K_insert_101 : decode prog_2_method_2_code 101 = .ok (.getfield 18, 3) := by decide +kernel
theorem d_K_insert_104 : decode prog_2_method_2_code 104 = .ok (.iconst 1, 1) := by decide +kernel
theorem d_K_insert_105 : decode prog_2_method_2_code 105 = .ok (.iadd, 1) := by decide +kernel
theorem d_K_insert_106 : decode prog_2_method_2_code 106 = .ok (.putfield 18, 3) := by decide +kernel
theorem d_K_insert_109 : decode prog_2_method_2_code 109 = .ok (.return_, 1) := by decide +kernel
theorem d_K_pieceOf_0 : decode prog_2_method_3_code 0 = .ok (.iconst 0, 1) := by decide +kernel
theorem d_K_pieceOf_1 : decode prog_2_method_3_code 1 = .ok (.istore 5, 2) := by decide +kernel
theorem d_K_pieceOf_3 : decode prog_2_method_3_code 3 = .ok (.iload 5, 2) := by decide +kernel
theorem d_K_pieceOf_5 : decode prog_2_method_3_code 5 = .ok (.aload_n 0, 1) := by decide +kernel
theorem d_K_pieceOf_6 : decode prog_2_method_3_code 6 = .ok (.getfield 18, 3) := by decide +kernel
theorem d_K_pieceOf_9 : decode prog_2_method_3_code 9 = .ok (.if_icmp .ge 56, 3) := by decide +kernel
theorem d_K_pieceOf_12 : decode prog_2_method_3_code 12 = .ok (.lload_n 1, 1) := by decide +kernel
theorem d_K_pieceOf_13 : decode prog_2_method_3_code 13 = .ok (.aload_n 0, 1) := by decide +kernel
theorem d_K_pieceOf_14 : decode prog_2_method_3_code 14 = .ok (.getfield 15, 3) := by decide +kernel
theorem d_K_pieceOf_17 : decode prog_2_method_3_code 17 = .ok (.iload 5, 2) := by decide +kernel
theorem d_K_pieceOf_19 : decode prog_2_method_3_code 19 = .ok (.laload, 1) := by decide +kernel
theorem d_K_pieceOf_20 : decode prog_2_method_3_code 20 = .ok (.lmul, 1) := by decide +kernel
theorem d_K_pieceOf_21 : decode prog_2_method_3_code 21 = .ok (.aload_n 0, 1) := by decide +kernel
theorem d_K_pieceOf_22 : decode prog_2_method_3_code 22 = .ok (.getfield 9, 3) := by decide +kernel
theorem d_K_pieceOf_25 : decode prog_2_method_3_code 25 = .ok (.iload 5, 2) := by decide +kernel
theorem d_K_pieceOf_27 : decode prog_2_method_3_code 27 = .ok (.laload, 1) := by decide +kernel
theorem d_K_pieceOf_28 : decode prog_2_method_3_code 28 = .ok (.lload_n 3, 1) := by decide +kernel
theorem d_K_pieceOf_29 : decode prog_2_method_3_code 29 = .ok (.lmul, 1) := by decide +kernel
theorem d_K_pieceOf_30 : decode prog_2_method_3_code 30 = .ok (.invokestatic 26, 3) := by decide +kernel
theorem d_K_pieceOf_33 : decode prog_2_method_3_code 33 = .ok (.istore 6, 2) := by decide +kernel
theorem d_K_pieceOf_35 : decode prog_2_method_3_code 35 = .ok (.iload 6, 2) := by decide +kernel
theorem d_K_pieceOf_37 : decode prog_2_method_3_code 37 = .ok (.ifCond .gt 22, 3) := by decide +kernel
theorem d_K_pieceOf_40 : decode prog_2_method_3_code 40 = .ok (.iload 6, 2) := by decide +kernel
theorem d_K_pieceOf_42 : decode prog_2_method_3_code 42 = .ok (.ifCond .ne 12, 3) := by decide +kernel
theorem d_K_pieceOf_45 : decode prog_2_method_3_code 45 = .ok (.iconst 2, 1) := by decide +kernel
theorem d_K_pieceOf_46 : decode prog_2_method_3_code 46 = .ok (.iload 5, 2) := by decide +kernel
theorem d_K_pieceOf_48 : decode prog_2_method_3_code 48 = .ok (.imul, 1) := by decide +kernel
theorem d_K_pieceOf_49 : decode prog_2_method_3_code 49 = .ok (.iconst 1, 1) := by decide +kernel
theorem d_K_pieceOf_50 : decode prog_2_method_3_code 50 = .ok (.iadd, 1) := by decide +kernel
theorem d_K_pieceOf_51 : decode prog_2_method_3_code 51 = .ok (.goto 7, 3) := by decide +kernel
theorem d_K_pieceOf_54 : decode prog_2_method_3_code 54 = .ok (.iconst 2, 1) := by decide +kernel
theorem d_K_pieceOf_55 : decode prog_2_method_3_code 55 = .ok (.iload 5, 2) := by decide +kernel
theorem d_K_pieceOf_57 : decode prog_2_method_3_code 57 = .ok (.imul, 1) := by decide +kernel
theorem d_K_pieceOf_58 : decode prog_2_method_3_code 58 = .ok (.ireturn, 1) := by decide +kernel
theorem d_K_pieceOf_59 : decode prog_2_method_3_code 59 = .ok (.iinc 5 1, 3) := by decide +kernel
theorem d_K_pieceOf_62 : decode prog_2_method_3_code 62 = .ok (.goto (-59), 3) := by decide +kernel
theorem d_K_pieceOf_65 : decode prog_2_method_3_code 65 = .ok (.iconst 2, 1) := by decide +kernel
theorem d_K_pieceOf_66 : decode prog_2_method_3_code 66 = .ok (.aload_n 0, 1) := by decide +kernel
theorem d_K_pieceOf_67 : decode prog_2_method_3_code 67 = .ok (.getfield 18, 3) := by decide +kernel
theorem d_K_pieceOf_70 : decode prog_2_method_3_code 70 = .ok (.imul, 1) := by decide +kernel
theorem d_K_pieceOf_71 : decode prog_2_method_3_code 71 = .ok (.ireturn, 1) := by decide +kernel
theorem d_K_samplePart_0 : decode prog_2_method_4_code 0 = .ok (.aload_n 0, 1) := by decide +kernel
theorem d_K_samplePart_1 : decode prog_2_method_4_code 1 = .ok (.getfield 18, 3) := by decide +kernel
theorem d_K_samplePart_4 : decode prog_2_method_4_code 4 = .ok (.ifCond .gt 10, 3) := by decide +kernel
theorem d_K_samplePart_7 : decode prog_2_method_4_code 7 = .ok (.lconst 0, 1) := by decide +kernel
theorem d_K_samplePart_8 : decode prog_2_method_4_code 8 = .ok (.lconst 1, 1) := by decide +kernel
theorem d_K_samplePart_9 : decode prog_2_method_4_code 9 = .ok (.iload_n 2, 1) := by decide +kernel
theorem d_K_samplePart_10 : decode prog_2_method_4_code 10 = .ok (.invokestatic 31, 3) := by decide +kernel
theorem d_K_samplePart_13 : decode prog_2_method_4_code 13 = .ok (.lreturn, 1) := by decide +kernel
theorem d_K_samplePart_14 : decode prog_2_method_4_code 14 = .ok (.iload_n 1, 1) := by decide +kernel
theorem d_K_samplePart_15 : decode prog_2_method_4_code 15 = .ok (.ifCond .gt 27, 3) := by decide +kernel
theorem d_K_samplePart_18 : decode prog_2_method_4_code 18 = .ok (.aload_n 0, 1) := by decide +kernel
theorem d_K_samplePart_19 : decode prog_2_method_4_code 19 = .ok (.getfield 9, 3) := by decide +kernel
theorem d_K_samplePart_22 : decode prog_2_method_4_code 22 = .ok (.iconst 0, 1) := by decide +kernel
theorem d_K_samplePart_23 : decode prog_2_method_4_code 23 = .ok (.laload, 1) := by decide +kernel
theorem d_K_samplePart_24 : decode prog_2_method_4_code 24 = .ok (.aload_n 0, 1) := by decide +kernel
theorem d_K_samplePart_25 : decode prog_2_method_4_code 25 = .ok (.getfield 15, 3) := by decide +kernel
theorem d_K_samplePart_28 : decode prog_2_method_4_code 28 = .ok (.iconst 0, 1) := by decide +kernel
theorem d_K_samplePart_29 : decode prog_2_method_4_code 29 = .ok (.laload, 1) := by decide +kernel
theorem d_K_samplePart_30 : decode prog_2_method_4_code 30 = .ok (.lsub, 1) := by decide +kernel
theorem d_K_samplePart_31 : decode prog_2_method_4_code 31 = .ok (.aload_n 0, 1) := by decide +kernel
theorem d_K_samplePart_32 : decode prog_2_method_4_code 32 = .ok (.getfield 15, 3) := by decide +kernel
theorem d_K_samplePart_35 : decode prog_2_method_4_code 35 = .ok (.iconst 0, 1) := by decide +kernel
theorem d_K_samplePart_36 : decode prog_2_method_4_code 36 = .ok (.laload, 1) := by decide +kernel
theorem d_K_samplePart_37 : decode prog_2_method_4_code 37 = .ok (.iload_n 2, 1) := by decide +kernel
theorem d_K_samplePart_38 : decode prog_2_method_4_code 38 = .ok (.invokestatic 31, 3) := by decide +kernel
theorem d_K_samplePart_41 : decode prog_2_method_4_code 41 = .ok (.lreturn, 1) := by decide +kernel
theorem d_K_samplePart_42 : decode prog_2_method_4_code 42 = .ok (.iload_n 1, 1) := by decide +kernel
theorem d_K_samplePart_43 : decode prog_2_method_4_code 43 = .ok (.iconst 2, 1) := by decide +kernel
theorem d_K_samplePart_44 : decode prog_2_method_4_code 44 = .ok (.idiv, 1) := by decide +kernel
theorem d_K_samplePart_45 : decode prog_2_method_4_code 45 = .ok (.istore_n 3, 1) := by decide +kernel
theorem d_K_samplePart_46 : decode prog_2_method_4_code 46 = .ok (.iload_n 3, 1) := by decide +kernel
theorem d_K_samplePart_47 : decode prog_2_method_4_code 47 = .ok (.aload_n 0, 1) := by decide +kernel
theorem d_K_samplePart_48 : decode prog_2_method_4_code 48 = .ok (.getfield 18, 3) := by decide +kernel
theorem d_K_samplePart_51 : decode prog_2_method_4_code 51 = .ok (.if_icmp .lt 42, 3) := by decide +kernel
theorem d_K_samplePart_54 : decode prog_2_method_4_code 54 = .ok (.aload_n 0, 1) := by decide +kernel
theorem d_K_samplePart_55 : decode prog_2_method_4_code 55 = .ok (.getfield 9, 3) := by decide +kernel
theorem d_K_samplePart_58 : decode prog_2_method_4_code 58 = .ok (.aload_n 0, 1) := by decide +kernel
theorem d_K_samplePart_59 : decode prog_2_method_4_code 59 = .ok (.getfield 18, 3) := by decide +kernel
theorem d_K_samplePart_62 : decode prog_2_method_4_code 62 = .ok (.iconst 1, 1) := by decide +kernel
theorem d_K_samplePart_63 : decode prog_2_method_4_code 63 = .ok (.isub, 1) := by decide +kernel
theorem d_K_samplePart_64 : decode prog_2_method_4_code 64 = .ok (.laload, 1) := by decide +kernel
theorem d_K_samplePart_65 : decode prog_2_method_4_code 65 = .ok (.aload_n 0, 1) := by decide +kernel
theorem d_K_samplePart_66 : decode prog_2_method_4_code 66 = .ok (.getfield 15, 3) := by decide +kernel
theorem d_K_samplePart_69 : decode prog_2_method_4_code 69 = .ok (.aload_n 0, 1) := by decide +kernel
theorem d_K_samplePart_70 : decode prog_2_method_4_code 70 = .ok (.getfield 18, 3) := by decide +kernel
theorem d_K_samplePart_73 : decode prog_2_method_4_code 73 = .ok (.iconst 1, 1) := by decide +kernel
theorem d_K_samplePart_74 : decode prog_2_method_4_code 74 = .ok (.isub, 1) := by decide +kernel
theorem d_K_samplePart_75 : decode prog_2_method_4_code 75 = .ok (.laload, 1) := by decide +kernel
theorem d_K_samplePart_76 : decode prog_2_method_4_code 76 = .ok (.ladd, 1) := by decide +kernel
theorem d_K_samplePart_77 : decode prog_2_method_4_code 77 = .ok (.aload_n 0, 1) := by decide +kernel
theorem d_K_samplePart_78 : decode prog_2_method_4_code 78 = .ok (.getfield 15, 3) := by decide +kernel
theorem d_K_samplePart_81 : decode prog_2_method_4_code 81 = .ok (.aload_n 0, 1) := by decide +kernel
theorem d_K_samplePart_82 : decode prog_2_method_4_code 82 = .ok (.getfield 18, 3) := by decide +kernel
theorem d_K_samplePart_85 : decode prog_2_method_4_code 85 = .ok (.iconst 1, 1) := by decide +kernel
theorem d_K_samplePart_86 : decode prog_2_method_4_code 86 = .ok (.isub, 1) := by decide +kernel
theorem d_K_samplePart_87 : decode prog_2_method_4_code 87 = .ok (.laload, 1) := by decide +kernel
theorem d_K_samplePart_88 : decode prog_2_method_4_code 88 = .ok (.iload_n 2, 1) := by decide +kernel
theorem d_K_samplePart_89 : decode prog_2_method_4_code 89 = .ok (.invokestatic 31, 3) := by decide +kernel
theorem d_K_samplePart_92 : decode prog_2_method_4_code 92 = .ok (.lreturn, 1) := by decide +kernel
theorem d_K_samplePart_93 : decode prog_2_method_4_code 93 = .ok (.iload_n 1, 1) := by decide +kernel
theorem d_K_samplePart_94 : decode prog_2_method_4_code 94 = .ok (.iconst 2, 1) := by decide +kernel
theorem d_K_samplePart_95 : decode prog_2_method_4_code 95 = .ok (.irem, 1) := by decide +kernel
theorem d_K_samplePart_96 : decode prog_2_method_4_code 96 = .ok (.iconst 1, 1) := by decide +kernel
theorem d_K_samplePart_97 : decode prog_2_method_4_code 97 = .ok (.if_icmp .ne 20, 3) := by decide +kernel
theorem d_K_samplePart_100 : decode prog_2_method_4_code 100 = .ok (.aload_n 0, 1) := by decide +kernel
theorem d_K_samplePart_101 : decode prog_2_method_4_code 101 = .ok (.getfield 9, 3) := by decide +kernel
theorem d_K_samplePart_104 : decode prog_2_method_4_code 104 = .ok (.iload_n 3, 1) := by decide +kernel
theorem d_K_samplePart_105 : decode prog_2_method_4_code 105 = .ok (.laload, 1) := by decide +kernel
theorem d_K_samplePart_106 : decode prog_2_method_4_code 106 = .ok (.aload_n 0, 1) := by decide +kernel
theorem d_K_samplePart_107 : decode prog_2_method_4_code 107 = .ok (.getfield 15, 3) := by decide +kernel
theorem d_K_samplePart_110 : decode prog_2_method_4_code 110 = .ok (.iload_n 3, 1) := by decide +kernel
theorem d_K_samplePart_111 : decode prog_2_method_4_code 111 = .ok (.laload, 1) := by decide +kernel
theorem d_K_samplePart_112 : decode prog_2_method_4_code 112 = .ok (.iload_n 2, 1) := by decide +kernel
theorem d_K_samplePart_113 : decode prog_2_method_4_code 113 = .ok (.invokestatic 31, 3) := by decide +kernel
theorem d_K_samplePart_116 : decode prog_2_method_4_code 116 = .ok (.lreturn, 1) := by decide +kernel
theorem d_K_samplePart_117 : decode prog_2_method_4_code 117 = .ok (.aload_n 0, 1) := by decide +kernel
theorem d_K_samplePart_118 : decode prog_2_method_4_code 118 = .ok (.getfield 9, 3) := by decide +kernel
theorem d_K_samplePart_121 : decode prog_2_method_4_code 121 = .ok (.iload_n 3, 1) := by decide +kernel
theorem d_K_samplePart_122 : decode prog_2_method_4_code 122 = .ok (.iconst 1, 1) := by decide +kernel
theorem d_K_samplePart_123 : decode prog_2_method_4_code 123 = .ok (.isub, 1) := by decide +kernel
theorem d_K_samplePart_124 : decode prog_2_method_4_code 124 = .ok (.laload, 1) := by decide +kernel
theorem d_K_samplePart_125 : decode prog_2_method_4_code 125 = .ok (.aload_n 0, 1) := by decide +kernel
theorem d_K_samplePart_126 : decode prog_2_method_4_code 126 = .ok (.getfield 15, 3) := by decide +kernel
theorem d_K_samplePart_129 : decode prog_2_method_4_code 129 = .ok (.iload_n 3, 1) := by decide +kernel
theorem d_K_samplePart_130 : decode prog_2_method_4_code 130 = .ok (.laload, 1) := by decide +kernel
theorem d_K_samplePart_131 : decode prog_2_method_4_code 131 = .ok (.lmul, 1) := by decide +kernel
theorem d_K_samplePart_132 : decode prog_2_method_4_code 132 = .ok (.aload_n 0, 1) := by decide +kernel
theorem d_K_samplePart_133 : decode prog_2_method_4_code 133 = .ok (.getfield 9, 3) := by decide +kernel
theorem d_K_samplePart_136 : decode prog_2_method_4_code 136 = .ok (.iload_n 3, 1) := by decide +kernel
theorem d_K_samplePart_137 : decode prog_2_method_4_code 137 = .ok (.laload, 1) := by decide +kernel
theorem d_K_samplePart_138 : decode prog_2_method_4_code 138 = .ok (.aload_n 0, 1) := by decide +kernel
theorem d_K_samplePart_139 : decode prog_2_method_4_code 139 = .ok (.getfield 15, 3) := by decide +kernel
theorem d_K_samplePart_142 : decode prog_2_method_4_code 142 = .ok (.iload_n 3, 1) := by decide +kernel
theorem d_K_samplePart_143 : decode prog_2_method_4_code 143 = .ok (.iconst 1, 1) := by decide +kernel
theorem d_K_samplePart_144 : decode prog_2_method_4_code 144 = .ok (.isub, 1) := by decide +kernel
theorem d_K_samplePart_145 : decode prog_2_method_4_code 145 = .ok (.laload, 1) := by decide +kernel
theorem d_K_samplePart_146 : decode prog_2_method_4_code 146 = .ok (.lmul, 1) := by decide +kernel
theorem d_K_samplePart_147 : decode prog_2_method_4_code 147 = .ok (.ladd, 1) := by decide +kernel
theorem d_K_samplePart_148 : decode prog_2_method_4_code 148 = .ok (.lstore 4, 2) := by decide +kernel
theorem d_K_samplePart_150 : decode prog_2_method_4_code 150 = .ok (.lload 4, 2) := by decide +kernel
theorem d_K_samplePart_152 : decode prog_2_method_4_code 152 = .ok (.ldc2_w 35, 3) := by decide +kernel
theorem d_K_samplePart_155 : decode prog_2_method_4_code 155 = .ok (.aload_n 0, 1) := by decide +kernel
theorem d_K_samplePart_156 : decode prog_2_method_4_code 156 = .ok (.getfield 15, 3) := by decide +kernel
theorem d_K_samplePart_159 : decode prog_2_method_4_code 159 = .ok (.iload_n 3, 1) := by decide +kernel
theorem d_K_samplePart_160 : decode prog_2_method_4_code 160 = .ok (.iconst 1, 1) := by decide +kernel
theorem d_K_samplePart_161 : decode prog_2_method_4_code 161 = .ok (.isub, 1) := by decide +kernel
theorem d_K_samplePart_162 : decode prog_2_method_4_code 162 = .ok (.laload, 1) := by decide +kernel
theorem d_K_samplePart_163 : decode prog_2_method_4_code 163 = .ok (.lmul, 1) := by decide +kernel
theorem d_K_samplePart_164 : decode prog_2_method_4_code 164 = .ok (.aload_n 0, 1) := by decide +kernel
theorem d_K_samplePart_165 : decode prog_2_method_4_code 165 = .ok (.getfield 15, 3) := by decide +kernel
theorem d_K_samplePart_168 : decode prog_2_method_4_code 168 = .ok (.iload_n 3, 1) := by decide +kernel
theorem d_K_samplePart_169 : decode prog_2_method_4_code 169 = .ok (.laload, 1) := by decide +kernel
theorem d_K_samplePart_170 : decode prog_2_method_4_code 170 = .ok (.lmul, 1) := by decide +kernel
theorem d_K_samplePart_171 : decode prog_2_method_4_code 171 = .ok (.iload_n 2, 1) := by decide +kernel
theorem d_K_samplePart_172 : decode prog_2_method_4_code 172 = .ok (.invokestatic 31, 3) := by decide +kernel
theorem d_K_samplePart_175 : decode prog_2_method_4_code 175 = .ok (.lreturn, 1) := by decide +kernel
theorem d_K_reduced_0 : decode prog_2_method_5_code 0 = .ok (.lload_n 0, 1) := by decide +kernel
theorem d_K_reduced_1 : decode prog_2_method_5_code 1 = .ok (.invokestatic 37, 3) := by decide +kernel
theorem d_K_reduced_4 : decode prog_2_method_5_code 4 = .ok (.lload_n 2, 1) := by decide +kernel
theorem d_K_reduced_5 : decode prog_2_method_5_code 5 = .ok (.invokestatic 43, 3) := by decide +kernel
theorem d_K_reduced_8 : decode prog_2_method_5_code 8 = .ok (.lstore 5, 2) := by decide +kernel
theorem d_K_reduced_10 : decode prog_2_method_5_code 10 = .ok (.iload 4, 2) := by decide +kernel
theorem d_K_reduced_12 : decode prog_2_method_5_code 12 = .ok (.ifCond .ne 7, 3) := by decide +kernel
theorem d_K_reduced_15 : decode prog_2_method_5_code 15 = .ok (.lload_n 0, 1) := by decide +kernel
theorem d_K_reduced_16 : decode prog_2_method_5_code 16 = .ok (.goto 4, 3) := by decide +kernel
theorem d_K_reduced_19 : decode prog_2_method_5_code 19 = .ok (.lload_n 2, 1) := by decide +kernel
theorem d_K_reduced_20 : decode prog_2_method_5_code 20 = .ok (.lload 5, 2) := by decide +kernel
theorem d_K_reduced_22 : decode prog_2_method_5_code 22 = .ok (.ldiv, 1) := by decide +kernel
theorem d_K_reduced_23 : decode prog_2_method_5_code 23 = .ok (.lreturn, 1) := by decide +kernel
theorem d_K_commonDivisor_0 : decode prog_2_method_6_code 0 = .ok (.lload_n 0, 1) := by decide +kernel
theorem d_K_commonDivisor_1 : decode prog_2_method_6_code 1 = .ok (.lstore 4, 2) := by decide +kernel
theorem d_K_commonDivisor_3 : decode prog_2_method_6_code 3 = .ok (.lload_n 2, 1) := by decide +kernel
theorem d_K_commonDivisor_4 : decode prog_2_method_6_code 4 = .ok (.lstore 6, 2) := by decide +kernel
theorem d_K_commonDivisor_6 : decode prog_2_method_6_code 6 = .ok (.iconst 0, 1) := by decide +kernel
theorem d_K_commonDivisor_7 : decode prog_2_method_6_code 7 = .ok (.istore 8, 2) := by decide +kernel
theorem d_K_commonDivisor_9 : decode prog_2_method_6_code 9 = .ok (.iload 8, 2) := by decide +kernel
theorem d_K_commonDivisor_11 : decode prog_2_method_6_code 11 = .ok (.bipush 100, 2) := by decide +kernel
theorem d_K_commonDivisor_13 : decode prog_2_method_6_code 13 = .ok (.if_icmp .ge 31, 3) := by decide +kernel
theorem d_K_commonDivisor_16 : decode prog_2_method_6_code 16 = .ok (.lload 6, 2) := by decide +kernel
theorem d_K_commonDivisor_18 : decode prog_2_method_6_code 18 = .ok (.lconst 0, 1) := by decide +kernel
theorem d_K_commonDivisor_19 : decode prog_2_method_6_code 19 = .ok (.lcmp, 1) := by decide +kernel
theorem d_K_commonDivisor_20 : decode prog_2_method_6_code 20 = .ok (.ifCond .eq 24, 3) := by decide +kernel
theorem d_K_commonDivisor_23 : decode prog_2_method_6_code 23 = .ok (.lload 4, 2) := by decide +kernel
theorem d_K_commonDivisor_25 : decode prog_2_method_6_code 25 = .ok (.lload 6, 2) := by decide +kernel
theorem d_K_commonDivisor_27 : decode prog_2_method_6_code 27 = .ok (.lrem, 1) := by decide +kernel
theorem d_K_commonDivisor_28 : decode prog_2_method_6_code 28 = .ok (.lstore 9, 2) := by decide +kernel
theorem d_K_commonDivisor_30 : decode prog_2_method_6_code 30 = .ok (.lload 6, 2) := by decide +kernel
theorem d_K_commonDivisor_32 : decode prog_2_method_6_code 32 = .ok (.lstore 4, 2) := by decide +kernel
theorem d_K_commonDivisor_34 : decode prog_2_method_6_code 34 = .ok (.lload 9, 2) := by decide +kernel
theorem d_K_commonDivisor_36 : decode prog_2_method_6_code 36 = .ok (.lstore 6, 2) := by decide +kernel
theorem d_K_commonDivisor_38 : decode prog_2_method_6_code 38 = .ok (.iinc 8 1, 3) := by decide +kernel
theorem d_K_commonDivisor_41 : decode prog_2_method_6_code 41 = .ok (.goto (-32), 3) := by decide +kernel
theorem d_K_commonDivisor_44 : decode prog_2_method_6_code 44 = .ok (.lload 4, 2) := by decide +kernel
theorem d_K_commonDivisor_46 : decode prog_2_method_6_code 46 = .ok (.lconst 1, 1) := by decide +kernel
theorem d_K_commonDivisor_47 : decode prog_2_method_6_code 47 = .ok (.invokestatic 47, 3) := by decide +kernel
theorem d_K_commonDivisor_50 : decode prog_2_method_6_code 50 = .ok (.lreturn, 1) := by decide +kernel
theorem d_JI_compare_0 : decode prog_9_method_40_code 0 = .ok (.iload_n 0, 1) := by decide +kernel
theorem d_JI_compare_1 : decode prog_9_method_40_code 1 = .ok (.iload_n 1, 1) := by decide +kernel
theorem d_JI_compare_2 : decode prog_9_method_40_code 2 = .ok (.if_icmp .ge 7, 3) := by decide +kernel
theorem d_JI_compare_5 : decode prog_9_method_40_code 5 = .ok (.iconst (-1), 1) := by decide +kernel
theorem d_JI_compare_6 : decode prog_9_method_40_code 6 = .ok (.goto 13, 3) := by decide +kernel
theorem d_JI_compare_9 : decode prog_9_method_40_code 9 = .ok (.iload_n 0, 1) := by decide +kernel
theorem d_JI_compare_10 : decode prog_9_method_40_code 10 = .ok (.iload_n 1, 1) := by decide +kernel
theorem d_JI_compare_11 : decode prog_9_method_40_code 11 = .ok (.if_icmp .ne 7, 3) := by decide +kernel
theorem d_JI_compare_14 : decode prog_9_method_40_code 14 = .ok (.iconst 0, 1) := by decide +kernel
theorem d_JI_compare_15 : decode prog_9_method_40_code 15 = .ok (.goto 4, 3) := by decide +kernel
theorem d_JI_compare_18 : decode prog_9_method_40_code 18 = .ok (.iconst 1, 1) := by decide +kernel
theorem d_JI_compare_19 : decode prog_9_method_40_code 19 = .ok (.ireturn, 1) := by decide +kernel
theorem d_JL_compare_0 : decode prog_10_method_42_code 0 = .ok (.lload_n 0, 1) := by decide +kernel
theorem d_JL_compare_1 : decode prog_10_method_42_code 1 = .ok (.lload_n 2, 1) := by decide +kernel
theorem d_JL_compare_2 : decode prog_10_method_42_code 2 = .ok (.lcmp, 1) := by decide +kernel
theorem d_JL_compare_3 : decode prog_10_method_42_code 3 = .ok (.ifCond .ge 7, 3) := by decide +kernel
theorem d_JL_compare_6 : decode prog_10_method_42_code 6 = .ok (.iconst (-1), 1) := by decide +kernel
theorem d_JL_compare_7 : decode prog_10_method_42_code 7 = .ok (.goto 14, 3) := by decide +kernel
theorem d_JL_compare_10 : decode prog_10_method_42_code 10 = .ok (.lload_n 0, 1) := by decide +kernel
theorem d_JL_compare_11 : decode prog_10_method_42_code 11 = .ok (.lload_n 2, 1) := by decide +kernel
theorem d_JL_compare_12 : decode prog_10_method_42_code 12 = .ok (.lcmp, 1) := by decide +kernel
theorem d_JL_compare_13 : decode prog_10_method_42_code 13 = .ok (.ifCond .ne 7, 3) := by decide +kernel
theorem d_JL_compare_16 : decode prog_10_method_42_code 16 = .ok (.iconst 0, 1) := by decide +kernel
theorem d_JL_compare_17 : decode prog_10_method_42_code 17 = .ok (.goto 4, 3) := by decide +kernel
theorem d_JL_compare_20 : decode prog_10_method_42_code 20 = .ok (.iconst 1, 1) := by decide +kernel
theorem d_JL_compare_21 : decode prog_10_method_42_code 21 = .ok (.ireturn, 1) := by decide +kernel
theorem d_JM_absI_0 : decode prog_11_method_59_code 0 = .ok (.iload_n 0, 1) := by decide +kernel
theorem d_JM_absI_1 : decode prog_11_method_59_code 1 = .ok (.ifCond .ge 8, 3) := by decide +kernel
theorem d_JM_absI_4 : decode prog_11_method_59_code 4 = .ok (.iload_n 0, 1) := by decide +kernel
theorem d_JM_absI_5 : decode prog_11_method_59_code 5 = .ok (.ineg, 1) := by decide +kernel
theorem d_JM_absI_6 : decode prog_11_method_59_code 6 = .ok (.goto 4, 3) := by decide +kernel
theorem d_JM_absI_9 : decode prog_11_method_59_code 9 = .ok (.iload_n 0, 1) := by decide +kernel
theorem d_JM_absI_10 : decode prog_11_method_59_code 10 = .ok (.ireturn, 1) := by decide +kernel
theorem d_JM_absJ_0 : decode prog_11_method_61_code 0 = .ok (.lload_n 0, 1) := by decide +kernel
theorem d_JM_absJ_1 : decode prog_11_method_61_code 1 = .ok (.lconst 0, 1) := by decide +kernel
theorem d_JM_absJ_2 : decode prog_11_method_61_code 2 = .ok (.lcmp, 1) := by decide +kernel
theorem d_JM_absJ_3 : decode prog_11_method_61_code 3 = .ok (.ifCond .ge 8, 3) := by decide +kernel
theorem d_JM_absJ_6 : decode prog_11_method_61_code 6 = .ok (.lload_n 0, 1) := by decide +kernel
theorem d_JM_absJ_7 : decode prog_11_method_61_code 7 = .ok (.lneg, 1) := by decide +kernel
theorem d_JM_absJ_8 : decode prog_11_method_61_code 8 = .ok (.goto 4, 3) := by decide +kernel
theorem d_JM_absJ_11 : decode prog_11_method_61_code 11 = .ok (.lload_n 0, 1) := by decide +kernel
theorem d_JM_absJ_12 : decode prog_11_method_61_code 12 = .ok (.lreturn, 1) := by decide +kernel
theorem d_JM_maxJ_0 : decode prog_11_method_66_code 0 = .ok (.lload_n 0, 1) := by decide +kernel
theorem d_JM_maxJ_1 : decode prog_11_method_66_code 1 = .ok (.lload_n 2, 1) := by decide +kernel
theorem d_JM_maxJ_2 : decode prog_11_method_66_code 2 = .ok (.lcmp, 1) := by decide +kernel
theorem d_JM_maxJ_3 : decode prog_11_method_66_code 3 = .ok (.ifCond .lt 7, 3) := by decide +kernel
theorem d_JM_maxJ_6 : decode prog_11_method_66_code 6 = .ok (.lload_n 0, 1) := by decide +kernel
theorem d_JM_maxJ_7 : decode prog_11_method_66_code 7 = .ok (.goto 4, 3) := by decide +kernel
theorem d_JM_maxJ_10 : decode prog_11_method_66_code 10 = .ok (.lload_n 2, 1) := by decide +kernel
theorem d_JM_maxJ_11 : decode prog_11_method_66_code 11 = .ok (.lreturn, 1) := by decide +kernel
end
section
theorem d_C_init_0 : decode prog_1_method_1_code 0 = .ok (.aload_n 0, 1) := by decide +kernel
theorem d_C_init_1 : decode prog_1_method_1_code 1 = .ok (.invokespecial 3, 3) := by decide +kernel
theorem d_C_init_4 : decode prog_1_method_1_code 4 = .ok (.aload_n 0, 1) := by decide +kernel
theorem d_C_init_5 : decode prog_1_method_1_code 5 = .ok (.bipush 6, 2) := by decide +kernel
theorem d_C_init_7 : decode prog_1_method_1_code 7 = .ok (.newarray .int, 2) := by decide +kernel
theorem d_C_init_9 : decode prog_1_method_1_code 9 = .ok (.putfield 9, 3) := by decide +kernel
theorem d_C_init_12 : decode prog_1_method_1_code 12 = .ok (.aload_n 0, 1) := by decide +kernel
theorem d_C_init_13 : decode prog_1_method_1_code 13 = .ok (.bipush 6, 2) := by decide +kernel
theorem d_C_init_15 : decode prog_1_method_1_code 15 = .ok (.newarray .int, 2) := by decide +kernel
theorem d_C_init_17 : decode prog_1_method_1_code 17 = .ok (.putfield 13, 3) := by decide +kernel
theorem d_C_init_20 : decode prog_1_method_1_code 20 = .ok (.aload_n 0, 1) := by decide +kernel
theorem d_C_init_21 : decode prog_1_method_1_code 21 = .ok (.bipush 6, 2) := by decide +kernel
theorem d_C_init_23 : decode prog_1_method_1_code 23 = .ok (.newarray .int, 2) := by decide +kernel
theorem d_C_init_25 : decode prog_1_method_1_code 25 = .ok (.putfield 16, 3) := by decide +kernel
theorem d_C_init_28 : decode prog_1_method_1_code 28 = .ok (.aload_n 0, 1) := by decide +kernel
theorem d_C_init_29 : decode prog_1_method_1_code 29 = .ok (.iconst 0, 1) := by decide +kernel
theorem d_C_init_30 : decode prog_1_method_1_code 30 = .ok (.putfield 19, 3) := by decide +kernel
theorem d_C_init_33 : decode prog_1_method_1_code 33 = .ok (.aload_n 0, 1) := by decide +kernel
theorem d_C_init_34 : decode prog_1_method_1_code 34 = .ok (.new 23, 3) := by decide +kernel
theorem d_C_init_37 : decode prog_1_method_1_code 37 = .ok (.dup, 1) := by decide +kernel
theorem d_C_init_38 : decode prog_1_method_1_code 38 = .ok (.invokespecial 25, 3) := by decide +kernel
theorem d_C_init_41 : decode prog_1_method_1_code 41 = .ok (.putfield 26, 3) := by decide +kernel
theorem d_C_init_44 : decode prog_1_method_1_code 44 = .ok (.aload_n 0, 1) := by decide +kernel
theorem d_C_init_45 : decode prog_1_method_1_code 45 = .ok (.new 23, 3) := by decide +kernel
theorem d_C_init_48 : decode prog_1_method_1_code 48 = .ok (.dup, 1) := by decide +kernel
theorem d_C_init_49 : decode prog_1_method_1_code 49 = .ok (.invokespecial 25, 3) := by decide +kernel
theorem d_C_init_52 : decode prog_1_method_1_code 52 = .ok (.putfield 30, 3) := by decide +kernel
theorem d_C_init_55 : decode prog_1_method_1_code 55 = .ok (.aload_n 0, 1) := by decide +kernel
theorem d_C_init_56 : decode prog_1_method_1_code 56 = .ok (.bipush 31, 2) := by decide +kernel
theorem d_C_init_58 : decode prog_1_method_1_code 58 = .ok (.newarray .long, 2) := by decide +kernel
theorem d_C_init_60 : decode prog_1_method_1_code 60 = .ok (.putfield 33, 3) := by decide +kernel
theorem d_C_init_63 : decode prog_1_method_1_code 63 = .ok (.aload_n 0, 1) := by decide +kernel
theorem d_C_init_64 : decode prog_1_method_1_code 64 = .ok (.bipush 31, 2) := by decide +kernel
theorem d_C_init_66 : decode prog_1_method_1_code 66 = .ok (.newarray .long, 2) := by decide +kernel
theorem d_C_init_68 : decode prog_1_method_1_code 68 = .ok (.putfield 37, 3) := by decide +kernel
theorem d_C_init_71 : decode prog_1_method_1_code 71 = .ok (.aload_n 0, 1) := by decide +kernel
theorem d_C_init_72 : decode prog_1_method_1_code 72 = .ok (.bipush 31, 2) := by decide +kernel
theorem d_C_init_74 : decode prog_1_method_1_code 74 = .ok (.bipush 6, 2) := by decide +kernel
theorem d_C_init_76 : decode prog_1_method_1_code 76 = .ok (.multianewarray 40 2, 4) := by decide +kernel
theorem d_C_init_80 : decode prog_1_method_1_code 80 = .ok (.putfield 42, 3) := by decide +kernel
theorem d_C_init_83 : decode prog_1_method_1_code 83 = .ok (.aload_n 0, 1) := by decide +kernel
theorem d_C_init_84 : decode prog_1_method_1_code 84 = .ok (.bipush 32, 2) := by decide +kernel
theorem d_C_init_86 : decode prog_1_method_1_code 86 = .ok (.newarray .int, 2) := by decide +kernel
theorem d_C_init_88 : decode prog_1_method_1_code 88 = .ok (.putfield 45, 3) := by decide +kernel
theorem d_C_init_91 : decode prog_1_method_1_code 91 = .ok (.aload_n 0, 1) := by decide +kernel
theorem d_C_init_92 : decode prog_1_method_1_code 92 = .ok (.invokevirtual 48, 3) := by decide +kernel
theorem d_C_init_95 : decode prog_1_method_1_code 95 = .ok (.return_, 1) := by decide +kernel
theorem d_C_line_0 : decode prog_1_method_2_code 0 = .ok (.iload_n 1, 1) := by decide +kernel
theorem d_C_line_1 : decode prog_1_method_2_code 1 = .ok (.invokestatic 51, 3) := by decide +kernel
theorem d_C_line_4 : decode prog_1_method_2_code 4 = .ok (.ifCond .eq 17, 3) := by decide +kernel
theorem d_C_line_7 : decode prog_1_method_2_code 7 = .ok (.iload_n 2, 1) := by decide +kernel
theorem d_C_line_8 : decode prog_1_method_2_code 8 = .ok (.invokestatic 51, 3) := by decide +kernel
theorem d_C_line_11 : decode prog_1_method_2_code 11 = .ok (.ifCond .eq 10, 3) := by decide +kernel
theorem d_C_line_14 : decode prog_1_method_2_code 14 = .ok (.iload_n 3, 1) := by decide +kernel
theorem d_C_line_15 : decode prog_1_method_2_code 15 = .ok (.invokestatic 51, 3) := by decide +kernel
theorem d_C_line_18 : decode prog_1_method_2_code 18 = .ok (.ifCond .ne 13, 3) := by decide +kernel
theorem d_C_line_21 : decode prog_1_method_2_code 21 = .ok (.new 55, 3) := by decide +kernel
theorem d_C_line_24 : decode prog_1_method_2_code 24 = .ok (.dup, 1) := by decide +kernel
theorem d_C_line_25 : decode prog_1_method_2_code 25 = .ok (.ldc 57, 2) := by decide +kernel
theorem d_C_line_27 : decode prog_1_method_2_code 27 = .ok (.invokespecial 59, 3) := by decide +kernel
theorem d_C_line_30 : decode prog_1_method_2_code 30 = .ok (.athrow, 1) := by decide +kernel
theorem d_C_line_31 : decode prog_1_method_2_code 31 = .ok (.iload_n 1, 1) := by decide +kernel
theorem d_C_line_32 : decode prog_1_method_2_code 32 = .ok (.ifCond .ne 17, 3) := by decide +kernel
theorem d_C_line_35 : decode prog_1_method_2_code 35 = .ok (.iload_n 2, 1) := by decide +kernel
theorem d_C_line_36 : decode prog_1_method_2_code 36 = .ok (.ifCond .ne 13, 3) := by decide +kernel
theorem d_C_line_39 : decode prog_1_method_2_code 39 = .ok (.new 55, 3) := by decide +kernel
theorem d_C_line_42 : decode prog_1_method_2_code 42 = .ok (.dup, 1) := by decide +kernel
theorem d_C_line_43 : decode prog_1_method_2_code 43 = .ok (.ldc 62, 2) := by decide +kernel
theorem d_C_line_45 : decode prog_1_method_2_code 45 = .ok (.invokespecial 59, 3) := by decide +kernel
theorem d_C_line_48 : decode prog_1_method_2_code 48 = .ok (.athrow, 1) := by decide +kernel
theorem d_C_line_49 : decode prog_1_method_2_code 49 = .ok (.aload_n 0, 1) := by decide +kernel
theorem d_C_line_50 : decode prog_1_method_2_code 50 = .ok (.getfield 19, 3) := by decide +kernel
theorem d_C_line_53 : decode prog_1_method_2_code 53 = .ok (.bipush 6, 2) := by decide +kernel
theorem d_C_line_55 : decode prog_1_method_2_code 55 = .ok (.if_icmp .lt 13, 3) := by decide +kernel
theorem d_C_line_58 : decode prog_1_method_2_code 58 = .ok (.new 64, 3) := by decide +kernel
theorem d_C_line_61 : decode prog_1_method_2_code 61 = .ok (.dup, 1) := by decide +kernel
theorem d_C_line_62 : decode prog_1_method_2_code 62 = .ok (.ldc 66, 2) := by decide +kernel
theorem d_C_line_64 : decode prog_1_method_2_code 64 = .ok (.invokespecial 68, 3) := by decide +kernel
theorem d_C_line_67 : decode prog_1_method_2_code 67 = .ok (.athrow, 1) := by decide +kernel
theorem d_C_line_68 : decode prog_1_method_2_code 68 = .ok (.aload_n 0, 1) := by decide +kernel
theorem d_C_line_69 : decode prog_1_method_2_code 69 = .ok (.getfield 19, 3) := by decide +kernel
theorem d_C_line_72 : decode prog_1_method_2_code 72 = .ok (.istore 4, 2) := by decide +kernel
theorem d_C_line_74 : decode prog_1_method_2_code 74 = .ok (.aload_n 0, 1) := by decide +kernel
theorem d_C_line_75 : decode prog_1_method_2_code 75 = .ok (.getfield 9, 3) := by decide +kernel
theorem d_C_line_78 : decode prog_1_method_2_code 78 = .ok (.iload 4, 2) := by decide +kernel
theorem d_C_line_80 : decode prog_1_method_2_code 80 = .ok (.iload_n 1, 1) := by decide +kernel
theorem d_C_line_81 : decode prog_1_method_2_code 81 = .ok (.iastore, 1) := by decide +kernel
theorem d_C_line_82 : decode prog_1_method_2_code 82 = .ok (.aload_n 0, 1) := by decide +kernel
theorem d_C_line_83 : decode prog_1_method_2_code 83 = .ok (.getfield 13, 3) := by decide +kernel
theorem d_C_line_86 : decode prog_1_method_2_code 86 = .ok (.iload 4, 2) := by decide +kernel
theorem d_C_line_88 : decode prog_1_method_2_code 88 = .ok (.iload_n 2, 1) := by decide +kernel
theorem d_C_line_89 : decode prog_1_method_2_code 89 = .ok (.iastore, 1) := by decide +kernel
theorem d_C_line_90 : decode prog_1_method_2_code 90 = .ok (.aload_n 0, 1) := by decide +kernel
theorem d_C_line_91 : decode prog_1_method_2_code 91 = .ok (.getfield 16, 3) := by decide +kernel
theorem d_C_line_94 : decode prog_1_method_2_code 94 = .ok (.iload 4, 2) := by decide +kernel
theorem d_C_line_96 : decode prog_1_method_2_code 96 = .ok (.iload_n 3, 1) := by decide +kernel
theorem d_C_line_97 : decode prog_1_method_2_code 97 = .ok (.iastore, 1) := by decide +kernel
theorem d_C_line_98 : decode prog_1_method_2_code 98 = .ok (.aload_n 0, 1) := by decide +kernel
theorem d_C_line_99 : decode prog_1_method_2_code 99 = .ok (.iload 4, 2) := by decide +kernel
theorem d_C_line_101 : decode prog_1_method_2_code 101 = .ok (.iconst 1, 1) := by decide +kernel
theorem d_C_line_102 : decode prog_1_method_2_code 102 = .ok (.iadd, 1) := by decide +kernel
theorem d_C_line_103 : decode prog_1_method_2_code 103 = .ok (.putfield 19, 3) := by decide +kernel
theorem d_C_line_106 : decode prog_1_method_2_code 106 = .ok (.aload_n 0, 1) := by decide +kernel
theorem d_C_line_107 : decode prog_1_method_2_code 107 = .ok (.invokevirtual 48, 3) := by decide +kernel
theorem d_C_line_110 : decode prog_1_method_2_code 110 = .ok (.iload 4, 2) := by decide +kernel
theorem d_C_line_112 : decode prog_1_method_2_code 112 = .ok (.ireturn, 1) := by decide +kernel
theorem d_C_drop_0 : decode prog_1_method_3_code 0 = .ok (.aload_n 0, 1) := by decide +kernel
theorem d_C_drop_1 : decode prog_1_method_3_code 1 = .ok (.iload_n 1, 1) := by decide +kernel
theorem d_C_drop_2 : decode prog_1_method_3_code 2 = .ok (.invokevirtual 69, 3) := by decide +kernel
theorem d_C_drop_5 : decode prog_1_method_3_code 5 = .ok (.ifCond .ne 13, 3) := by decide +kernel
theorem d_C_drop_8 : decode prog_1_method_3_code 8 = .ok (.new 72, 3) := by decide +kernel
theorem d_C_drop_11 : decode prog_1_method_3_code 11 = .ok (.dup, 1) := by decide +kernel
theorem d_C_drop_12 : decode prog_1_method_3_code 12 = .ok (.ldc 74, 2) := by decide +kernel
theorem d_C_drop_14 : decode prog_1_method_3_code 14 = .ok (.invokespecial 76, 3) := by decide +kernel
theorem d_C_drop_17 : decode prog_1_method_3_code 17 = .ok (.athrow, 1) := by decide +kernel
theorem d_C_drop_18 : decode prog_1_method_3_code 18 = .ok (.iload_n 1, 1) := by decide +kernel
theorem d_C_drop_19 : decode prog_1_method_3_code 19 = .ok (.iconst 1, 1) := by decide +kernel
theorem d_C_drop_20 : decode prog_1_method_3_code 20 = .ok (.iadd, 1) := by decide +kernel
theorem d_C_drop_21 : decode prog_1_method_3_code 21 = .ok (.istore_n 2, 1) := by decide +kernel
theorem d_C_drop_22 : decode prog_1_method_3_code 22 = .ok (.iload_n 2, 1) := by decide +kernel
theorem d_C_drop_23 : decode prog_1_method_3_code 23 = .ok (.aload_n 0, 1) := by decide +kernel
theorem d_C_drop_24 : decode prog_1_method_3_code 24 = .ok (.getfield 19, 3) := by decide +kernel
theorem d_C_drop_27 : decode prog_1_method_3_code 27 = .ok (.if_icmp .ge 51, 3) := by decide +kernel
theorem d_C_drop_30 : decode prog_1_method_3_code 30 = .ok (.aload_n 0, 1) := by decide +kernel
theorem d_C_drop_31 : decode prog_1_method_3_code 31 = .ok (.getfield 9, 3) := by decide +kernel
theorem d_C_drop_34 : decode prog_1_method_3_code 34 = .ok (.iload_n 2, 1) := by decide +kernel
theorem d_C_drop_35 : decode prog_1_method_3_code 35 = .ok (.iconst 1, 1) := by decide +kernel
theorem d_C_drop_36 : decode prog_1_method_3_code 36 = .ok (.isub, 1) := by decide +kernel
theorem d_C_drop_37 : decode prog_1_method_3_code 37 = .ok (.aload_n 0, 1) := by decide +kernel
theorem d_C_drop_38 : decode prog_1_method_3_code 38 = .ok (.getfield 9, 3) := by decide +kernel
theorem d_C_drop_41 : decode prog_1_method_3_code 41 = .ok (.iload_n 2, 1) := by decide +kernel
theorem d_C_drop_42 : decode prog_1_method_3_code 42 = .ok (.iaload, 1) := by decide +kernel
theorem d_C_drop_43 : decode prog_1_method_3_code 43 = .ok (.iastore, 1) := by decide +kernel
theorem d_C_drop_44 : decode prog_1_method_3_code 44 = .ok (.aload_n 0, 1) := by decide +kernel
theorem d_C_drop_45 : decode prog_1_method_3_code 45 = .ok (.getfield 13, 3) := by decide +kernel
theorem d_C_drop_48 : decode prog_1_method_3_code 48 = .ok (.iload_n 2, 1) := by decide +kernel
theorem d_C_drop_49 : decode prog_1_method_3_code 49 = .ok (.iconst 1, 1) := by decide +kernel
theorem d_C_drop_50 : decode prog_1_method_3_code 50 = .ok (.isub, 1) := by decide +kernel
theorem d_C_drop_51 : decode prog_1_method_3_code 51 = .ok (.aload_n 0, 1) := by decide +kernel
theorem d_C_drop_52 : decode prog_1_method_3_code 52 = .ok (.getfield 13, 3) := by decide +kernel
theorem d_C_drop_55 : decode prog_1_method_3_code 55 = .ok (.iload_n 2, 1) := by decide +kernel
theorem d_C_drop_56 : decode prog_1_method_3_code 56 = .ok (.iaload, 1) := by decide +kernel
theorem d_C_drop_57 : decode prog_1_method_3_code 57 = .ok (.iastore, 1) := by decide +kernel
theorem d_C_drop_58 : decode prog_1_method_3_code 58 = .ok (.aload_n 0, 1) := by decide +kernel
theorem d_C_drop_59 : decode prog_1_method_3_code 59 = .ok (.getfield 16, 3) := by decide +kernel
theorem d_C_drop_62 : decode prog_1_method_3_code 62 = .ok (.iload_n 2, 1) := by decide +kernel
theorem d_C_drop_63 : decode prog_1_method_3_code 63 = .ok (.iconst 1, 1) := by decide +kernel
theorem d_C_drop_64 : decode prog_1_method_3_code 64 = .ok (.isub, 1) := by decide +kernel
theorem d_C_drop_65 : decode prog_1_method_3_code 65 = .ok (.aload_n 0, 1) := by decide +kernel
theorem d_C_drop_66 : decode prog_1_method_3_code 66 = .ok (.getfield 16, 3) := by decide +kernel
theorem d_C_drop_69 : decode prog_1_method_3_code 69 = .ok (.iload_n 2, 1) := by decide +kernel
theorem d_C_drop_70 : decode prog_1_method_3_code 70 = .ok (.iaload, 1) := by decide +kernel
theorem d_C_drop_71 : decode prog_1_method_3_code 71 = .ok (.iastore, 1) := by decide +kernel
theorem d_C_drop_72 : decode prog_1_method_3_code 72 = .ok (.iinc 2 1, 3) := by decide +kernel
theorem d_C_drop_75 : decode prog_1_method_3_code 75 = .ok (.goto (-53), 3) := by decide +kernel
theorem d_C_drop_78 : decode prog_1_method_3_code 78 = .ok (.aload_n 0, 1) := by decide +kernel
theorem d_C_drop_79 : decode prog_1_method_3_code 79 = .ok (.dup, 1) := by decide +kernel
theorem d_C_drop_80 : decode prog_1_method_3_code 80 = .ok (.getfield 19, 3) := by decide +kernel
theorem d_C_drop_83 : decode prog_1_method_3_code 83 = .ok (.iconst 1, 1) := by decide +kernel
theorem d_C_drop_84 : decode prog_1_method_3_code 84 = .ok (.isub, 1) := by decide +kernel
theorem d_C_drop_85 : decode prog_1_method_3_code 85 = .ok (.putfield 19, 3) := by decide +kernel
theorem d_C_drop_88 : decode prog_1_method_3_code 88 = .ok (.aload_n 0, 1) := by decide +kernel
theorem d_C_drop_89 : decode prog_1_method_3_code 89 = .ok (.invokevirtual 48, 3) := by decide +kernel
theorem d_C_drop_92 : decode prog_1_method_3_code 92 = .ok (.return_, 1) := by decide +kernel
theorem d_C_cuts_0 : decode prog_1_method_4_code 0 = .ok (.aload_n 0, 1) := by decide +kernel
theorem d_C_cuts_1 : decode prog_1_method_4_code 1 = .ok (.getfield 26, 3) := by decide +kernel
theorem d_C_cuts_4 : decode prog_1_method_4_code 4 = .ok (.getfield 77, 3) := by decide +kernel
theorem d_C_cuts_7 : decode prog_1_method_4_code 7 = .ok (.ireturn, 1) := by decide +kernel
theorem d_C_cut_0 : decode prog_1_method_5_code 0 = .ok (.iload_n 1, 1) := by decide +kernel
theorem d_C_cut_1 : decode prog_1_method_5_code 1 = .ok (.ifCond .lt 14, 3) := by decide +kernel
theorem d_C_cut_4 : decode prog_1_method_5_code 4 = .ok (.iload_n 1, 1) := by decide +kernel
theorem d_C_cut_5 : decode prog_1_method_5_code 5 = .ok (.aload_n 0, 1) := by decide +kernel
theorem d_C_cut_6 : decode prog_1_method_5_code 6 = .ok (.getfield 26, 3) := by decide +kernel
theorem d_C_cut_9 : decode prog_1_method_5_code 9 = .ok (.getfield 77, 3) := by decide +kernel
theorem d_C_cut_12 : decode prog_1_method_5_code 12 = .ok (.if_icmp .lt 13, 3) := by decide +kernel
theorem d_C_cut_15 : decode prog_1_method_5_code 15 = .ok (.new 72, 3) := by decide +kernel
theorem d_C_cut_18 : decode prog_1_method_5_code 18 = .ok (.dup, 1) := by decide +kernel
theorem d_C_cut_19 : decode prog_1_method_5_code 19 = .ok (.ldc 80, 2) := by decide +kernel
theorem d_C_cut_21 : decode prog_1_method_5_code 21 = .ok (.invokespecial 76, 3) := by decide +kernel
theorem d_C_cut_24 : decode prog_1_method_5_code 24 = .ok (.athrow, 1) := by decide +kernel
theorem d_C_cut_25 : decode prog_1_method_5_code 25 = .ok (.iload_n 2, 1) := by decide +kernel
theorem d_C_cut_26 : decode prog_1_method_5_code 26 = .ok (.invokestatic 82, 3) := by decide +kernel
theorem d_C_cut_29 : decode prog_1_method_5_code 29 = .ok (.ifCond .ne 13, 3) := by decide +kernel
theorem d_C_cut_32 : decode prog_1_method_5_code 32 = .ok (.new 55, 3) := by decide +kernel
theorem d_C_cut_35 : decode prog_1_method_5_code 35 = .ok (.dup, 1) := by decide +kernel
theorem d_C_cut_36 : decode prog_1_method_5_code 36 = .ok (.ldc 85, 2) := by decide +kernel
theorem d_C_cut_38 : decode prog_1_method_5_code 38 = .ok (.invokespecial 59, 3) := by decide +kernel
theorem d_C_cut_41 : decode prog_1_method_5_code 41 = .ok (.athrow, 1) := by decide +kernel
theorem d_C_cut_42 : decode prog_1_method_5_code 42 = .ok (.aload_n 0, 1) := by decide +kernel
theorem d_C_cut_43 : decode prog_1_method_5_code 43 = .ok (.getfield 26, 3) := by decide +kernel
theorem d_C_cut_46 : decode prog_1_method_5_code 46 = .ok (.iconst 2, 1) := by decide +kernel
theorem d_C_cut_47 : decode prog_1_method_5_code 47 = .ok (.iload_n 1, 1) := by decide +kernel
theorem d_C_cut_48 : decode prog_1_method_5_code 48 = .ok (.imul, 1) := by decide +kernel
theorem d_C_cut_49 : decode prog_1_method_5_code 49 = .ok (.iconst 1, 1) := by decide +kernel
theorem d_C_cut_50 : decode prog_1_method_5_code 50 = .ok (.iadd, 1) := by decide +kernel
theorem d_C_cut_51 : decode prog_1_method_5_code 51 = .ok (.iload_n 2, 1) := by decide +kernel
theorem d_C_cut_52 : decode prog_1_method_5_code 52 = .ok (.invokevirtual 87, 3) := by decide +kernel
theorem d_C_cut_55 : decode prog_1_method_5_code 55 = .ok (.lreturn, 1) := by decide +kernel
theorem d_C_curves_0 : decode prog_1_method_6_code 0 = .ok (.iload_n 1, 1) := by decide +kernel
theorem d_C_curves_1 : decode prog_1_method_6_code 1 = .ok (.ifCond .lt 11, 3) := by decide +kernel
theorem d_C_curves_4 : decode prog_1_method_6_code 4 = .ok (.iload_n 1, 1) := by decide +kernel
theorem d_C_curves_5 : decode prog_1_method_6_code 5 = .ok (.aload_n 0, 1) := by decide +kernel
theorem d_C_curves_6 : decode prog_1_method_6_code 6 = .ok (.invokevirtual 91, 3) := by decide +kernel
theorem d_C_curves_9 : decode prog_1_method_6_code 9 = .ok (.if_icmp .lt 13, 3) := by decide +kernel
theorem d_C_curves_12 : decode prog_1_method_6_code 12 = .ok (.new 72, 3) := by decide +kernel
theorem d_C_curves_15 : decode prog_1_method_6_code 15 = .ok (.dup, 1) := by decide +kernel
theorem d_C_curves_16 : decode prog_1_method_6_code 16 = .ok (.ldc 95, 2) := by decide +kernel
theorem d_C_curves_18 : decode prog_1_method_6_code 18 = .ok (.invokespecial 76, 3) := by decide +kernel
theorem d_C_curves_21 : decode prog_1_method_6_code 21 = .ok (.athrow, 1) := by decide +kernel
theorem d_C_curves_22 : decode prog_1_method_6_code 22 = .ok (.aload_n 0, 1) := by decide +kernel
theorem d_C_curves_23 : decode prog_1_method_6_code 23 = .ok (.iload_n 1, 1) := by decide +kernel
theorem d_C_curves_24 : decode prog_1_method_6_code 24 = .ok (.invokevirtual 97, 3) := by decide +kernel
theorem d_C_curves_27 : decode prog_1_method_6_code 27 = .ok (.iconst 2, 1) := by decide +kernel
theorem d_C_curves_28 : decode prog_1_method_6_code 28 = .ok (.idiv, 1) := by decide +kernel
theorem d_C_curves_29 : decode prog_1_method_6_code 29 = .ok (.ireturn, 1) := by decide +kernel
theorem d_C_total_0 : decode prog_1_method_7_code 0 = .ok (.aload_n 0, 1) := by decide +kernel
theorem d_C_total_1 : decode prog_1_method_7_code 1 = .ok (.getfield 45, 3) := by decide +kernel
theorem d_C_total_4 : decode prog_1_method_7_code 4 = .ok (.aload_n 0, 1) := by decide +kernel
theorem d_C_total_5 : decode prog_1_method_7_code 5 = .ok (.invokevirtual 91, 3) := by decide +kernel
theorem d_C_total_8 : decode prog_1_method_7_code 8 = .ok (.iaload, 1) := by decide +kernel
theorem d_C_total_9 : decode prog_1_method_7_code 9 = .ok (.ireturn, 1) := by decide +kernel
theorem d_C_cell_0 : decode prog_1_method_8_code 0 = .ok (.aload_n 0, 1) := by decide +kernel
theorem d_C_cell_1 : decode prog_1_method_8_code 1 = .ok (.iload_n 1, 1) := by decide +kernel
theorem d_C_cell_2 : decode prog_1_method_8_code 2 = .ok (.invokevirtual 101, 3) := by decide +kernel
theorem d_C_cell_5 : decode prog_1_method_8_code 5 = .ok (.ifCond .ne 13, 3) := by decide +kernel
theorem d_C_cell_8 : decode prog_1_method_8_code 8 = .ok (.new 72, 3) := by decide +kernel
theorem d_C_cell_11 : decode prog_1_method_8_code 11 = .ok (.dup, 1) := by decide +kernel
theorem d_C_cell_12 : decode prog_1_method_8_code 12 = .ok (.ldc 104, 2) := by decide +kernel
theorem d_C_cell_14 : decode prog_1_method_8_code 14 = .ok (.invokespecial 76, 3) := by decide +kernel
theorem d_C_cell_17 : decode prog_1_method_8_code 17 = .ok (.athrow, 1) := by decide +kernel
theorem d_C_cell_18 : decode prog_1_method_8_code 18 = .ok (.aload_n 0, 1) := by decide +kernel
theorem d_C_cell_19 : decode prog_1_method_8_code 19 = .ok (.iload_n 1, 1) := by decide +kernel
theorem d_C_cell_20 : decode prog_1_method_8_code 20 = .ok (.invokevirtual 106, 3) := by decide +kernel
theorem d_C_cell_23 : decode prog_1_method_8_code 23 = .ok (.istore_n 3, 1) := by decide +kernel
theorem d_C_cell_24 : decode prog_1_method_8_code 24 = .ok (.iload_n 1, 1) := by decide +kernel
theorem d_C_cell_25 : decode prog_1_method_8_code 25 = .ok (.aload_n 0, 1) := by decide +kernel
theorem d_C_cell_26 : decode prog_1_method_8_code 26 = .ok (.getfield 45, 3) := by decide +kernel
theorem d_C_cell_29 : decode prog_1_method_8_code 29 = .ok (.iload_n 3, 1) := by decide +kernel
theorem d_C_cell_30 : decode prog_1_method_8_code 30 = .ok (.iaload, 1) := by decide +kernel
theorem d_C_cell_31 : decode prog_1_method_8_code 31 = .ok (.isub, 1) := by decide +kernel
theorem d_C_cell_32 : decode prog_1_method_8_code 32 = .ok (.istore 4, 2) := by decide +kernel
theorem d_C_cell_34 : decode prog_1_method_8_code 34 = .ok (.iload_n 2, 1) := by decide +kernel
theorem d_C_cell_35 : decode prog_1_method_8_code 35 = .ok (.tableswitch 41 0 2 #[25, 27, 30], 25) := by decide +kernel
theorem d_C_cell_60 : decode prog_1_method_8_code 60 = .ok (.iload_n 3, 1) := by decide +kernel
theorem d_C_cell_61 : decode prog_1_method_8_code 61 = .ok (.ireturn, 1) := by decide +kernel
theorem d_C_cell_62 : decode prog_1_method_8_code 62 = .ok (.iload 4, 2) := by decide +kernel
theorem d_C_cell_64 : decode prog_1_method_8_code 64 = .ok (.ireturn, 1) := by decide +kernel
theorem d_C_cell_65 : decode prog_1_method_8_code 65 = .ok (.iconst 2, 1) := by decide +kernel
theorem d_C_cell_66 : decode prog_1_method_8_code 66 = .ok (.iload_n 3, 1) := by decide +kernel
theorem d_C_cell_67 : decode prog_1_method_8_code 67 = .ok (.iconst 2, 1) := by decide +kernel
theorem d_C_cell_68 : decode prog_1_method_8_code 68 = .ok (.irem, 1) := by decide +kernel
theorem d_C_cell_69 : decode prog_1_method_8_code 69 = .ok (.isub, 1) := by decide +kernel
theorem d_C_cell_70 : decode prog_1_method_8_code 70 = .ok (.iload 4, 2) := by decide +kernel
theorem d_C_cell_72 : decode prog_1_method_8_code 72 = .ok (.iconst 2, 1) := by decide +kernel
theorem d_C_cell_73 : decode prog_1_method_8_code 73 = .ok (.irem, 1) := by decide +kernel
theorem d_C_cell_74 : decode prog_1_method_8_code 74 = .ok (.isub, 1) := by decide +kernel
theorem d_C_cell_75 : decode prog_1_method_8_code 75 = .ok (.ireturn, 1) := by decide +kernel
theorem d_C_cell_76 : decode prog_1_method_8_code 76 = .ok (.new 55, 3) := by decide +kernel
theorem d_C_cell_79 : decode prog_1_method_8_code 79 = .ok (.dup, 1) := by decide +kernel
theorem d_C_cell_80 : decode prog_1_method_8_code 80 = .ok (.ldc 109, 2) := by decide +kernel
theorem d_C_cell_82 : decode prog_1_method_8_code 82 = .ok (.invokespecial 59, 3) := by decide +kernel
theorem d_C_cell_85 : decode prog_1_method_8_code 85 = .ok (.athrow, 1) := by decide +kernel
theorem d_C_sample_0 : decode prog_1_method_9_code 0 = .ok (.aload_n 0, 1) := by decide +kernel
theorem d_C_sample_1 : decode prog_1_method_9_code 1 = .ok (.iload_n 1, 1) := by decide +kernel
theorem d_C_sample_2 : decode prog_1_method_9_code 2 = .ok (.invokevirtual 101, 3) := by decide +kernel
theorem d_C_sample_5 : decode prog_1_method_9_code 5 = .ok (.ifCond .ne 13, 3) := by decide +kernel
theorem d_C_sample_8 : decode prog_1_method_9_code 8 = .ok (.new 72, 3) := by decide +kernel
theorem d_C_sample_11 : decode prog_1_method_9_code 11 = .ok (.dup, 1) := by decide +kernel
theorem d_C_sample_12 : decode prog_1_method_9_code 12 = .ok (.ldc 104, 2) := by decide +kernel
theorem d_C_sample_14 : decode prog_1_method_9_code 14 = .ok (.invokespecial 76, 3) := by decide +kernel
theorem d_C_sample_17 : decode prog_1_method_9_code 17 = .ok (.athrow, 1) := by decide +kernel
theorem d_C_sample_18 : decode prog_1_method_9_code 18 = .ok (.iload_n 2, 1) := by decide +kernel
theorem d_C_sample_19 : decode prog_1_method_9_code 19 = .ok (.ifCond .lt 8, 3) := by decide +kernel
theorem d_C_sample_22 : decode prog_1_method_9_code 22 = .ok (.iload_n 2, 1) := by decide +kernel
theorem d_C_sample_23 : decode prog_1_method_9_code 23 = .ok (.iconst 1, 1) := by decide +kernel
theorem d_C_sample_24 : decode prog_1_method_9_code 24 = .ok (.if_icmp .le 13, 3) := by decide +kernel
theorem d_C_sample_27 : decode prog_1_method_9_code 27 = .ok (.new 55, 3) := by decide +kernel
theorem d_C_sample_30 : decode prog_1_method_9_code 30 = .ok (.dup, 1) := by decide +kernel
theorem d_C_sample_31 : decode prog_1_method_9_code 31 = .ok (.ldc 111, 2) := by decide +kernel
theorem d_C_sample_33 : decode prog_1_method_9_code 33 = .ok (.invokespecial 59, 3) := by decide +kernel
theorem d_C_sample_36 : decode prog_1_method_9_code 36 = .ok (.athrow, 1) := by decide +kernel
theorem d_C_sample_37 : decode prog_1_method_9_code 37 = .ok (.iload_n 3, 1) := by decide +kernel
theorem d_C_sample_38 : decode prog_1_method_9_code 38 = .ok (.invokestatic 82, 3) := by decide +kernel
theorem d_C_sample_41 : decode prog_1_method_9_code 41 = .ok (.ifCond .ne 13, 3) := by decide +kernel
theorem d_C_sample_44 : decode prog_1_method_9_code 44 = .ok (.new 55, 3) := by decide +kernel
theorem d_C_sample_47 : decode prog_1_method_9_code 47 = .ok (.dup, 1) := by decide +kernel
theorem d_C_sample_48 : decode prog_1_method_9_code 48 = .ok (.ldc 85, 2) := by decide +kernel
theorem d_C_sample_50 : decode prog_1_method_9_code 50 = .ok (.invokespecial 59, 3) := by decide +kernel
theorem d_C_sample_53 : decode prog_1_method_9_code 53 = .ok (.athrow, 1) := by decide +kernel
theorem d_C_sample_54 : decode prog_1_method_9_code 54 = .ok (.aload_n 0, 1) := by decide +kernel
theorem d_C_sample_55 : decode prog_1_method_9_code 55 = .ok (.iload_n 1, 1) := by decide +kernel
theorem d_C_sample_56 : decode prog_1_method_9_code 56 = .ok (.invokevirtual 106, 3) := by decide +kernel
theorem d_C_sample_59 : decode prog_1_method_9_code 59 = .ok (.istore 4, 2) := by decide +kernel
theorem d_C_sample_61 : decode prog_1_method_9_code 61 = .ok (.iload_n 2, 1) := by decide +kernel
theorem d_C_sample_62 : decode prog_1_method_9_code 62 = .ok (.ifCond .ne 25, 3) := by decide +kernel
theorem d_C_sample_65 : decode prog_1_method_9_code 65 = .ok (.iload_n 3, 1) := by decide +kernel
theorem d_C_sample_66 : decode prog_1_method_9_code 66 = .ok (.ifCond .ne 13, 3) := by decide +kernel
theorem d_C_sample_69 : decode prog_1_method_9_code 69 = .ok (.aload_n 0, 1) := by decide +kernel
theorem d_C_sample_70 : decode prog_1_method_9_code 70 = .ok (.getfield 33, 3) := by decide +kernel
theorem d_C_sample_73 : decode prog_1_method_9_code 73 = .ok (.iload 4, 2) := by decide +kernel
theorem d_C_sample_75 : decode prog_1_method_9_code 75 = .ok (.laload, 1) := by decide +kernel
theorem d_C_sample_76 : decode prog_1_method_9_code 76 = .ok (.goto 10, 3) := by decide +kernel
theorem d_C_sample_79 : decode prog_1_method_9_code 79 = .ok (.aload_n 0, 1) := by decide +kernel
theorem d_C_sample_80 : decode prog_1_method_9_code 80 = .ok (.getfield 37, 3) := by decide +kernel
theorem d_C_sample_83 : decode prog_1_method_9_code 83 = .ok (.iload 4, 2) := by decide +kernel
theorem d_C_sample_85 : decode prog_1_method_9_code 85 = .ok (.laload, 1) := by decide +kernel
theorem d_C_sample_86 : decode prog_1_method_9_code 86 = .ok (.lreturn, 1) := by decide +kernel
theorem d_C_sample_87 : decode prog_1_method_9_code 87 = .ok (.aload_n 0, 1) := by decide +kernel
theorem d_C_sample_88 : decode prog_1_method_9_code 88 = .ok (.aload_n 0, 1) := by decide +kernel
theorem d_C_sample_89 : decode prog_1_method_9_code 89 = .ok (.getfield 33, 3) := by decide +kernel
theorem d_C_sample_92 : decode prog_1_method_9_code 92 = .ok (.iload 4, 2) := by decide +kernel
theorem d_C_sample_94 : decode prog_1_method_9_code 94 = .ok (.laload, 1) := by decide +kernel
theorem d_C_sample_95 : decode prog_1_method_9_code 95 = .ok (.aload_n 0, 1) := by decide +kernel
theorem d_C_sample_96 : decode prog_1_method_9_code 96 = .ok (.getfield 37, 3) := by decide +kernel
theorem d_C_sample_99 : decode prog_1_method_9_code 99 = .ok (.iload 4, 2) := by decide +kernel
theorem d_C_sample_101 : decode prog_1_method_9_code 101 = .ok (.laload, 1) := by decide +kernel
theorem d_C_sample_102 : decode prog_1_method_9_code 102 = .ok (.invokevirtual 113, 3) := by decide +kernel
theorem d_C_sample_105 : decode prog_1_method_9_code 105 = .ok (.aload_n 0, 1) := by decide +kernel
theorem d_C_sample_106 : decode prog_1_method_9_code 106 = .ok (.getfield 30, 3) := by decide +kernel
theorem d_C_sample_109 : decode prog_1_method_9_code 109 = .ok (.iload_n 1, 1) := by decide +kernel
theorem d_C_sample_110 : decode prog_1_method_9_code 110 = .ok (.aload_n 0, 1) := by decide +kernel
theorem d_C_sample_111 : decode prog_1_method_9_code 111 = .ok (.getfield 45, 3) := by decide +kernel
theorem d_C_sample_114 : decode prog_1_method_9_code 114 = .ok (.iload 4, 2) := by decide +kernel
theorem d_C_sample_116 : decode prog_1_method_9_code 116 = .ok (.iaload, 1) := by decide +kernel
theorem d_C_sample_117 : decode prog_1_method_9_code 117 = .ok (.isub, 1) := by decide +kernel
theorem d_C_sample_118 : decode prog_1_method_9_code 118 = .ok (.iload_n 3, 1) := by decide +kernel
theorem d_C_sample_119 : decode prog_1_method_9_code 119 = .ok (.invokevirtual 87, 3) := by decide +kernel
theorem d_C_sample_122 : decode prog_1_method_9_code 122 = .ok (.lreturn, 1) := by decide +kernel
theorem d_C_sign_0 : decode prog_1_method_10_code 0 = .ok (.aload_n 0, 1) := by decide +kernel
theorem d_C_sign_1 : decode prog_1_method_10_code 1 = .ok (.iload_n 1, 1) := by decide +kernel
theorem d_C_sign_2 : decode prog_1_method_10_code 2 = .ok (.invokevirtual 101, 3) := by decide +kernel
theorem d_C_sign_5 : decode prog_1_method_10_code 5 = .ok (.ifCond .ne 13, 3) := by decide +kernel
theorem d_C_sign_8 : decode prog_1_method_10_code 8 = .ok (.new 72, 3) := by decide +kernel
theorem d_C_sign_11 : decode prog_1_method_10_code 11 = .ok (.dup, 1) := by decide +kernel
theorem d_C_sign_12 : decode prog_1_method_10_code 12 = .ok (.ldc 104, 2) := by decide +kernel
theorem d_C_sign_14 : decode prog_1_method_10_code 14 = .ok (.invokespecial 76, 3) := by decide +kernel
theorem d_C_sign_17 : decode prog_1_method_10_code 17 = .ok (.athrow, 1) := by decide +kernel
theorem d_C_sign_18 : decode prog_1_method_10_code 18 = .ok (.aload_n 0, 1) := by decide +kernel
theorem d_C_sign_19 : decode prog_1_method_10_code 19 = .ok (.iload_n 2, 1) := by decide +kernel
theorem d_C_sign_20 : decode prog_1_method_10_code 20 = .ok (.invokevirtual 69, 3) := by decide +kernel
theorem d_C_sign_23 : decode prog_1_method_10_code 23 = .ok (.ifCond .ne 13, 3) := by decide +kernel
theorem d_C_sign_26 : decode prog_1_method_10_code 26 = .ok (.new 72, 3) := by decide +kernel
theorem d_C_sign_29 : decode prog_1_method_10_code 29 = .ok (.dup, 1) := by decide +kernel
theorem d_C_sign_30 : decode prog_1_method_10_code 30 = .ok (.ldc 74, 2) := by decide +kernel
theorem d_C_sign_32 : decode prog_1_method_10_code 32 = .ok (.invokespecial 76, 3) := by decide +kernel
theorem d_C_sign_35 : decode prog_1_method_10_code 35 = .ok (.athrow, 1) := by decide +kernel
theorem d_C_sign_36 : decode prog_1_method_10_code 36 = .ok (.aload_n 0, 1) := by decide +kernel
theorem d_C_sign_37 : decode prog_1_method_10_code 37 = .ok (.iload_n 1, 1) := by decide +kernel
theorem d_C_sign_38 : decode prog_1_method_10_code 38 = .ok (.invokevirtual 106, 3) := by decide +kernel
theorem d_C_sign_41 : decode prog_1_method_10_code 41 = .ok (.istore_n 3, 1) := by decide +kernel
theorem d_C_sign_42 : decode prog_1_method_10_code 42 = .ok (.aload_n 0, 1) := by decide +kernel
theorem d_C_sign_43 : decode prog_1_method_10_code 43 = .ok (.iload_n 3, 1) := by decide +kernel
theorem d_C_sign_44 : decode prog_1_method_10_code 44 = .ok (.iload_n 1, 1) := by decide +kernel
theorem d_C_sign_45 : decode prog_1_method_10_code 45 = .ok (.aload_n 0, 1) := by decide +kernel
theorem d_C_sign_46 : decode prog_1_method_10_code 46 = .ok (.getfield 45, 3) := by decide +kernel
theorem d_C_sign_49 : decode prog_1_method_10_code 49 = .ok (.iload_n 3, 1) := by decide +kernel
theorem d_C_sign_50 : decode prog_1_method_10_code 50 = .ok (.iaload, 1) := by decide +kernel
theorem d_C_sign_51 : decode prog_1_method_10_code 51 = .ok (.isub, 1) := by decide +kernel
theorem d_C_sign_52 : decode prog_1_method_10_code 52 = .ok (.iload_n 2, 1) := by decide +kernel
theorem d_C_sign_53 : decode prog_1_method_10_code 53 = .ok (.invokevirtual 117, 3) := by decide +kernel
theorem d_C_sign_56 : decode prog_1_method_10_code 56 = .ok (.ireturn, 1) := by decide +kernel
theorem d_C_at_0 : decode prog_1_method_11_code 0 = .ok (.iload_n 1, 1) := by decide +kernel
theorem d_C_at_1 : decode prog_1_method_11_code 1 = .ok (.invokestatic 121, 3) := by decide +kernel
theorem d_C_at_4 : decode prog_1_method_11_code 4 = .ok (.ifCond .eq 25, 3) := by decide +kernel
theorem d_C_at_7 : decode prog_1_method_11_code 7 = .ok (.iload_n 2, 1) := by decide +kernel
theorem d_C_at_8 : decode prog_1_method_11_code 8 = .ok (.invokestatic 121, 3) := by decide +kernel
theorem d_C_at_11 : decode prog_1_method_11_code 11 = .ok (.ifCond .eq 18, 3) := by decide +kernel
theorem d_C_at_14 : decode prog_1_method_11_code 14 = .ok (.iload_n 3, 1) := by decide +kernel
theorem d_C_at_15 : decode prog_1_method_11_code 15 = .ok (.invokestatic 121, 3) := by decide +kernel
theorem d_C_at_18 : decode prog_1_method_11_code 18 = .ok (.ifCond .eq 11, 3) := by decide +kernel
theorem d_C_at_21 : decode prog_1_method_11_code 21 = .ok (.iload 4, 2) := by decide +kernel
theorem d_C_at_23 : decode prog_1_method_11_code 23 = .ok (.invokestatic 121, 3) := by decide +kernel
theorem d_C_at_26 : decode prog_1_method_11_code 26 = .ok (.ifCond .ne 13, 3) := by decide +kernel
theorem d_C_at_29 : decode prog_1_method_11_code 29 = .ok (.new 55, 3) := by decide +kernel
theorem d_C_at_32 : decode prog_1_method_11_code 32 = .ok (.dup, 1) := by decide +kernel
theorem d_C_at_33 : decode prog_1_method_11_code 33 = .ok (.ldc 124, 2) := by decide +kernel
theorem d_C_at_35 : decode prog_1_method_11_code 35 = .ok (.invokespecial 59, 3) := by decide +kernel
theorem d_C_at_38 : decode prog_1_method_11_code 38 = .ok (.athrow, 1) := by decide +kernel
theorem d_C_at_39 : decode prog_1_method_11_code 39 = .ok (.iload_n 2, 1) := by decide +kernel
theorem d_C_at_40 : decode prog_1_method_11_code 40 = .ok (.iconst 1, 1) := by decide +kernel
theorem d_C_at_41 : decode prog_1_method_11_code 41 = .ok (.if_icmp .lt 9, 3) := by decide +kernel
theorem d_C_at_44 : decode prog_1_method_11_code 44 = .ok (.iload 4, 2) := by decide +kernel
theorem d_C_at_46 : decode prog_1_method_11_code 46 = .ok (.iconst 1, 1) := by decide +kernel
theorem d_C_at_47 : decode prog_1_method_11_code 47 = .ok (.if_icmp .ge 13, 3) := by decide +kernel
theorem d_C_at_50 : decode prog_1_method_11_code 50 = .ok (.new 55, 3) := by decide +kernel
theorem d_C_at_53 : decode prog_1_method_11_code 53 = .ok (.dup, 1) := by decide +kernel
theorem d_C_at_54 : decode prog_1_method_11_code 54 = .ok (.ldc 126, 2) := by decide +kernel
theorem d_C_at_56 : decode prog_1_method_11_code 56 = .ok (.invokespecial 59, 3) := by decide +kernel
theorem d_C_at_59 : decode prog_1_method_11_code 59 = .ok (.athrow, 1) := by decide +kernel
theorem d_C_at_60 : decode prog_1_method_11_code 60 = .ok (.aload_n 0, 1) := by decide +kernel
theorem d_C_at_61 : decode prog_1_method_11_code 61 = .ok (.iload_n 1, 1) := by decide +kernel
theorem d_C_at_62 : decode prog_1_method_11_code 62 = .ok (.i2l, 1) := by decide +kernel
theorem d_C_at_63 : decode prog_1_method_11_code 63 = .ok (.iload_n 2, 1) := by decide +kernel
theorem d_C_at_64 : decode prog_1_method_11_code 64 = .ok (.i2l, 1) := by decide +kernel
theorem d_C_at_65 : decode prog_1_method_11_code 65 = .ok (.invokevirtual 113, 3) := by decide +kernel
theorem d_C_at_68 : decode prog_1_method_11_code 68 = .ok (.aload_n 0, 1) := by decide +kernel
theorem d_C_at_69 : decode prog_1_method_11_code 69 = .ok (.getfield 45, 3) := by decide +kernel
theorem d_C_at_72 : decode prog_1_method_11_code 72 = .ok (.aload_n 0, 1) := by decide +kernel
theorem d_C_at_73 : decode prog_1_method_11_code 73 = .ok (.getfield 26, 3) := by decide +kernel
theorem d_C_at_76 : decode prog_1_method_11_code 76 = .ok (.iload_n 1, 1) := by decide +kernel
theorem d_C_at_77 : decode prog_1_method_11_code 77 = .ok (.i2l, 1) := by decide +kernel
theorem d_C_at_78 : decode prog_1_method_11_code 78 = .ok (.iload_n 2, 1) := by decide +kernel
theorem d_C_at_79 : decode prog_1_method_11_code 79 = .ok (.i2l, 1) := by decide +kernel
theorem d_C_at_80 : decode prog_1_method_11_code 80 = .ok (.invokevirtual 128, 3) := by decide +kernel
theorem d_C_at_83 : decode prog_1_method_11_code 83 = .ok (.iaload, 1) := by decide +kernel
theorem d_C_at_84 : decode prog_1_method_11_code 84 = .ok (.aload_n 0, 1) := by decide +kernel
theorem d_C_at_85 : decode prog_1_method_11_code 85 = .ok (.getfield 30, 3) := by decide +kernel
theorem d_C_at_88 : decode prog_1_method_11_code 88 = .ok (.iload_n 3, 1) := by decide +kernel
theorem d_C_at_89 : decode prog_1_method_11_code 89 = .ok (.i2l, 1) := by decide +kernel
theorem d_C_at_90 : decode prog_1_method_11_code 90 = .ok (.iload 4, 2) := by decide +kernel
theorem d_C_at_92 : decode prog_1_method_11_code 92 = .ok (.i2l, 1) := by decide +kernel
theorem d_C_at_93 : decode prog_1_method_11_code 93 = .ok (.invokevirtual 128, 3) := by decide +kernel
theorem d_C_at_96 : decode prog_1_method_11_code 96 = .ok (.iadd, 1) := by decide +kernel
theorem d_C_at_97 : decode prog_1_method_11_code 97 = .ok (.ireturn, 1) := by decide +kernel
theorem d_C_find_0 : decode prog_1_method_12_code 0 = .ok (.aload_n 0, 1) := by decide +kernel
theorem d_C_find_1 : decode prog_1_method_12_code 1 = .ok (.invokevirtual 91, 3) := by decide +kernel
theorem d_C_find_4 : decode prog_1_method_12_code 4 = .ok (.istore_n 2, 1) := by decide +kernel
theorem d_C_find_5 : decode prog_1_method_12_code 5 = .ok (.iconst 0, 1) := by decide +kernel
theorem d_C_find_6 : decode prog_1_method_12_code 6 = .ok (.istore_n 3, 1) := by decide +kernel
theorem d_C_find_7 : decode prog_1_method_12_code 7 = .ok (.iload_n 3, 1) := by decide +kernel
theorem d_C_find_8 : decode prog_1_method_12_code 8 = .ok (.iload_n 2, 1) := by decide +kernel
theorem d_C_find_9 : decode prog_1_method_12_code 9 = .ok (.if_icmp .ge 53, 3) := by decide +kernel
theorem d_C_find_12 : decode prog_1_method_12_code 12 = .ok (.aload_n 0, 1) := by decide +kernel
theorem d_C_find_13 : decode prog_1_method_12_code 13 = .ok (.iload_n 3, 1) := by decide +kernel
theorem d_C_find_14 : decode prog_1_method_12_code 14 = .ok (.invokevirtual 97, 3) := by decide +kernel
theorem d_C_find_17 : decode prog_1_method_12_code 17 = .ok (.istore 4, 2) := by decide +kernel
theorem d_C_find_19 : decode prog_1_method_12_code 19 = .ok (.iconst 0, 1) := by decide +kernel
theorem d_C_find_20 : decode prog_1_method_12_code 20 = .ok (.istore 5, 2) := by decide +kernel
theorem d_C_find_22 : decode prog_1_method_12_code 22 = .ok (.iload 5, 2) := by decide +kernel
theorem d_C_find_24 : decode prog_1_method_12_code 24 = .ok (.iload 4, 2) := by decide +kernel
theorem d_C_find_26 : decode prog_1_method_12_code 26 = .ok (.if_icmp .ge 30, 3) := by decide +kernel
theorem d_C_find_29 : decode prog_1_method_12_code 29 = .ok (.aload_n 0, 1) := by decide +kernel
theorem d_C_find_30 : decode prog_1_method_12_code 30 = .ok (.iload_n 3, 1) := by decide +kernel
theorem d_C_find_31 : decode prog_1_method_12_code 31 = .ok (.iload 5, 2) := by decide +kernel
theorem d_C_find_33 : decode prog_1_method_12_code 33 = .ok (.iload_n 1, 1) := by decide +kernel
theorem d_C_find_34 : decode prog_1_method_12_code 34 = .ok (.invokevirtual 132, 3) := by decide +kernel
theorem d_C_find_37 : decode prog_1_method_12_code 37 = .ok (.ifCond .eq 13, 3) := by decide +kernel
theorem d_C_find_40 : decode prog_1_method_12_code 40 = .ok (.aload_n 0, 1) := by decide +kernel
theorem d_C_find_41 : decode prog_1_method_12_code 41 = .ok (.getfield 45, 3) := by decide +kernel
theorem d_C_find_44 : decode prog_1_method_12_code 44 = .ok (.iload_n 3, 1) := by decide +kernel
theorem d_C_find_45 : decode prog_1_method_12_code 45 = .ok (.iaload, 1) := by decide +kernel
theorem d_C_find_46 : decode prog_1_method_12_code 46 = .ok (.iload 5, 2) := by decide +kernel
theorem d_C_find_48 : decode prog_1_method_12_code 48 = .ok (.iadd, 1) := by decide +kernel
theorem d_C_find_49 : decode prog_1_method_12_code 49 = .ok (.ireturn, 1) := by decide +kernel
theorem d_C_find_50 : decode prog_1_method_12_code 50 = .ok (.iinc 5 1, 3) := by decide +kernel
theorem d_C_find_53 : decode prog_1_method_12_code 53 = .ok (.goto (-31), 3) := by decide +kernel
theorem d_C_find_56 : decode prog_1_method_12_code 56 = .ok (.iinc 3 1, 3) := by decide +kernel
theorem d_C_find_59 : decode prog_1_method_12_code 59 = .ok (.goto (-52), 3) := by decide +kernel
theorem d_C_find_62 : decode prog_1_method_12_code 62 = .ok (.iconst (-1), 1) := by decide +kernel
theorem d_C_find_63 : decode prog_1_method_12_code 63 = .ok (.ireturn, 1) := by decide +kernel
theorem d_C_touch_0 : decode prog_1_method_13_code 0 = .ok (.aload_n 0, 1) := by decide +kernel
theorem d_C_touch_1 : decode prog_1_method_13_code 1 = .ok (.iload_n 1, 1) := by decide +kernel
theorem d_C_touch_2 : decode prog_1_method_13_code 2 = .ok (.invokevirtual 101, 3) := by decide +kernel
theorem d_C_touch_5 : decode prog_1_method_13_code 5 = .ok (.ifCond .eq 11, 3) := by decide +kernel
theorem d_C_touch_8 : decode prog_1_method_13_code 8 = .ok (.aload_n 0, 1) := by decide +kernel
theorem d_C_touch_9 : decode prog_1_method_13_code 9 = .ok (.iload_n 2, 1) := by decide +kernel
theorem d_C_touch_10 : decode prog_1_method_13_code 10 = .ok (.invokevirtual 101, 3) := by decide +kernel
theorem d_C_touch_13 : decode prog_1_method_13_code 13 = .ok (.ifCond .ne 13, 3) := by decide +kernel
theorem d_C_touch_16 : decode prog_1_method_13_code 16 = .ok (.new 72, 3) := by decide +kernel
theorem d_C_touch_19 : decode prog_1_method_13_code 19 = .ok (.dup, 1) := by decide +kernel
theorem d_C_touch_20 : decode prog_1_method_13_code 20 = .ok (.ldc 104, 2) := by decide +kernel
theorem d_C_touch_22 : decode prog_1_method_13_code 22 = .ok (.invokespecial 76, 3) := by decide +kernel
theorem d_C_touch_25 : decode prog_1_method_13_code 25 = .ok (.athrow, 1) := by decide +kernel
theorem d_C_touch_26 : decode prog_1_method_13_code 26 = .ok (.aload_n 0, 1) := by decide +kernel
theorem d_C_touch_27 : decode prog_1_method_13_code 27 = .ok (.iload_n 1, 1) := by decide +kernel
theorem d_C_touch_28 : decode prog_1_method_13_code 28 = .ok (.invokevirtual 106, 3) := by decide +kernel
theorem d_C_touch_31 : decode prog_1_method_13_code 31 = .ok (.istore_n 3, 1) := by decide +kernel
theorem d_C_touch_32 : decode prog_1_method_13_code 32 = .ok (.aload_n 0, 1) := by decide +kernel
theorem d_C_touch_33 : decode prog_1_method_13_code 33 = .ok (.iload_n 2, 1) := by decide +kernel
theorem d_C_touch_34 : decode prog_1_method_13_code 34 = .ok (.invokevirtual 106, 3) := by decide +kernel
theorem d_C_touch_37 : decode prog_1_method_13_code 37 = .ok (.istore 4, 2) := by decide +kernel
theorem d_C_touch_39 : decode prog_1_method_13_code 39 = .ok (.iload_n 1, 1) := by decide +kernel
theorem d_C_touch_40 : decode prog_1_method_13_code 40 = .ok (.aload_n 0, 1) := by decide +kernel
theorem d_C_touch_41 : decode prog_1_method_13_code 41 = .ok (.getfield 45, 3) := by decide +kernel
theorem d_C_touch_44 : decode prog_1_method_13_code 44 = .ok (.iload_n 3, 1) := by decide +kernel
theorem d_C_touch_45 : decode prog_1_method_13_code 45 = .ok (.iaload, 1) := by decide +kernel
theorem d_C_touch_46 : decode prog_1_method_13_code 46 = .ok (.isub, 1) := by decide +kernel
theorem d_C_touch_47 : decode prog_1_method_13_code 47 = .ok (.istore 5, 2) := by decide +kernel
theorem d_C_touch_49 : decode prog_1_method_13_code 49 = .ok (.iload_n 2, 1) := by decide +kernel
theorem d_C_touch_50 : decode prog_1_method_13_code 50 = .ok (.aload_n 0, 1) := by decide +kernel
theorem d_C_touch_51 : decode prog_1_method_13_code 51 = .ok (.getfield 45, 3) := by decide +kernel
theorem d_C_touch_54 : decode prog_1_method_13_code 54 = .ok (.iload 4, 2) := by decide +kernel
theorem d_C_touch_56 : decode prog_1_method_13_code 56 = .ok (.iaload, 1) := by decide +kernel
theorem d_C_touch_57 : decode prog_1_method_13_code 57 = .ok (.isub, 1) := by decide +kernel
theorem d_C_touch_58 : decode prog_1_method_13_code 58 = .ok (.istore 6, 2) := by decide +kernel
theorem d_C_touch_60 : decode prog_1_method_13_code 60 = .ok (.iload_n 3, 1) := by decide +kernel
theorem d_C_touch_61 : decode prog_1_method_13_code 61 = .ok (.iload 4, 2) := by decide +kernel
theorem d_C_touch_63 : decode prog_1_method_13_code 63 = .ok (.if_icmp .ne 21, 3) := by decide +kernel
theorem d_C_touch_66 : decode prog_1_method_13_code 66 = .ok (.iload 5, 2) := by decide +kernel
theorem d_C_touch_68 : decode prog_1_method_13_code 68 = .ok (.iload 6, 2) := by decide +kernel
theorem d_C_touch_70 : decode prog_1_method_13_code 70 = .ok (.isub, 1) := by decide +kernel
theorem d_C_touch_71 : decode prog_1_method_13_code 71 = .ok (.invokestatic 136, 3) := by decide +kernel
theorem d_C_touch_74 : decode prog_1_method_13_code 74 = .ok (.iconst 1, 1) := by decide +kernel
theorem d_C_touch_75 : decode prog_1_method_13_code 75 = .ok (.if_icmp .gt 7, 3) := by decide +kernel
theorem d_C_touch_78 : decode prog_1_method_13_code 78 = .ok (.iconst 1, 1) := by decide +kernel
theorem d_C_touch_79 : decode prog_1_method_13_code 79 = .ok (.goto 4, 3) := by decide +kernel
theorem d_C_touch_82 : decode prog_1_method_13_code 82 = .ok (.iconst 0, 1) := by decide +kernel
theorem d_C_touch_83 : decode prog_1_method_13_code 83 = .ok (.ireturn, 1) := by decide +kernel
theorem d_C_touch_84 : decode prog_1_method_13_code 84 = .ok (.iload_n 3, 1) := by decide +kernel
theorem d_C_touch_85 : decode prog_1_method_13_code 85 = .ok (.iload 4, 2) := by decide +kernel
theorem d_C_touch_87 : decode prog_1_method_13_code 87 = .ok (.isub, 1) := by decide +kernel
theorem d_C_touch_88 : decode prog_1_method_13_code 88 = .ok (.invokestatic 136, 3) := by decide +kernel
theorem d_C_touch_91 : decode prog_1_method_13_code 91 = .ok (.iconst 1, 1) := by decide +kernel
theorem d_C_touch_92 : decode prog_1_method_13_code 92 = .ok (.if_icmp .eq 5, 3) := by decide +kernel
theorem d_C_touch_95 : decode prog_1_method_13_code 95 = .ok (.iconst 0, 1) := by decide +kernel
theorem d_C_touch_96 : decode prog_1_method_13_code 96 = .ok (.ireturn, 1) := by decide +kernel
theorem d_C_touch_97 : decode prog_1_method_13_code 97 = .ok (.iload_n 3, 1) := by decide +kernel
theorem d_C_touch_98 : decode prog_1_method_13_code 98 = .ok (.iconst 2, 1) := by decide +kernel
theorem d_C_touch_99 : decode prog_1_method_13_code 99 = .ok (.irem, 1) := by decide +kernel
theorem d_C_touch_100 : decode prog_1_method_13_code 100 = .ok (.iconst 1, 1) := by decide +kernel
theorem d_C_touch_101 : decode prog_1_method_13_code 101 = .ok (.if_icmp .ne 17, 3) := by decide +kernel
theorem d_C_touch_104 : decode prog_1_method_13_code 104 = .ok (.aload_n 0, 1) := by decide +kernel
theorem d_C_touch_105 : decode prog_1_method_13_code 105 = .ok (.iload 4, 2) := by decide +kernel
theorem d_C_touch_107 : decode prog_1_method_13_code 107 = .ok (.iload 6, 2) := by decide +kernel
theorem d_C_touch_109 : decode prog_1_method_13_code 109 = .ok (.iload_n 3, 1) := by decide +kernel
theorem d_C_touch_110 : decode prog_1_method_13_code 110 = .ok (.iload 5, 2) := by decide +kernel
theorem d_C_touch_112 : decode prog_1_method_13_code 112 = .ok (.invokevirtual 141, 3) := by decide +kernel
theorem d_C_touch_115 : decode prog_1_method_13_code 115 = .ok (.goto 14, 3) := by decide +kernel
theorem d_C_touch_118 : decode prog_1_method_13_code 118 = .ok (.aload_n 0, 1) := by decide +kernel
theorem d_C_touch_119 : decode prog_1_method_13_code 119 = .ok (.iload_n 3, 1) := by decide +kernel
theorem d_C_touch_120 : decode prog_1_method_13_code 120 = .ok (.iload 5, 2) := by decide +kernel
theorem d_C_touch_122 : decode prog_1_method_13_code 122 = .ok (.iload 4, 2) := by decide +kernel
theorem d_C_touch_124 : decode prog_1_method_13_code 124 = .ok (.iload 6, 2) := by decide +kernel
theorem d_C_touch_126 : decode prog_1_method_13_code 126 = .ok (.invokevirtual 141, 3) := by decide +kernel
theorem d_C_touch_129 : decode prog_1_method_13_code 129 = .ok (.ireturn, 1) := by decide +kernel
theorem d_C_lines_0 : decode prog_1_method_14_code 0 = .ok (.aload_n 0, 1) := by decide +kernel
theorem d_C_lines_1 : decode prog_1_method_14_code 1 = .ok (.getfield 19, 3) := by decide +kernel
theorem d_C_lines_4 : decode prog_1_method_14_code 4 = .ok (.ireturn, 1) := by decide +kernel
theorem d_C_isFactor_0 : decode prog_1_method_15_code 0 = .ok (.iload_n 0, 1) := by decide +kernel
theorem d_C_isFactor_1 : decode prog_1_method_15_code 1 = .ok (.bipush (-6), 2) := by decide +kernel
theorem d_C_isFactor_3 : decode prog_1_method_15_code 3 = .ok (.if_icmp .lt 13, 3) := by decide +kernel
theorem d_C_isFactor_6 : decode prog_1_method_15_code 6 = .ok (.iload_n 0, 1) := by decide +kernel
theorem d_C_isFactor_7 : decode prog_1_method_15_code 7 = .ok (.bipush 6, 2) := by decide +kernel
theorem d_C_isFactor_9 : decode prog_1_method_15_code 9 = .ok (.if_icmp .gt 7, 3) := by decide +kernel
theorem d_C_isFactor_12 : decode prog_1_method_15_code 12 = .ok (.iconst 1, 1) := by decide +kernel
theorem d_C_isFactor_13 : decode prog_1_method_15_code 13 = .ok (.goto 4, 3) := by decide +kernel
theorem d_C_isFactor_16 : decode prog_1_method_15_code 16 = .ok (.iconst 0, 1) := by decide +kernel
theorem d_C_isFactor_17 : decode prog_1_method_15_code 17 = .ok (.ireturn, 1) := by decide +kernel
theorem d_C_isNear_0 : decode prog_1_method_16_code 0 = .ok (.iload_n 0, 1) := by decide +kernel
theorem d_C_isNear_1 : decode prog_1_method_16_code 1 = .ok (.bipush (-100), 2) := by decide +kernel
theorem d_C_isNear_3 : decode prog_1_method_16_code 3 = .ok (.if_icmp .lt 13, 3) := by decide +kernel
theorem d_C_isNear_6 : decode prog_1_method_16_code 6 = .ok (.iload_n 0, 1) := by decide +kernel
theorem d_C_isNear_7 : decode prog_1_method_16_code 7 = .ok (.bipush 100, 2) := by decide +kernel
theorem d_C_isNear_9 : decode prog_1_method_16_code 9 = .ok (.if_icmp .gt 7, 3) := by decide +kernel
theorem d_C_isNear_12 : decode prog_1_method_16_code 12 = .ok (.iconst 1, 1) := by decide +kernel
theorem d_C_isNear_13 : decode prog_1_method_16_code 13 = .ok (.goto 4, 3) := by decide +kernel
theorem d_C_isNear_16 : decode prog_1_method_16_code 16 = .ok (.iconst 0, 1) := by decide +kernel
theorem d_C_isNear_17 : decode prog_1_method_16_code 17 = .ok (.ireturn, 1) := by decide +kernel
theorem d_C_isPart_0 : decode prog_1_method_17_code 0 = .ok (.iload_n 0, 1) := by decide +kernel
theorem d_C_isPart_1 : decode prog_1_method_17_code 1 = .ok (.ifCond .eq 8, 3) := by decide +kernel
theorem d_C_isPart_4 : decode prog_1_method_17_code 4 = .ok (.iload_n 0, 1) := by decide +kernel
theorem d_C_isPart_5 : decode prog_1_method_17_code 5 = .ok (.iconst 1, 1) := by decide +kernel
theorem d_C_isPart_6 : decode prog_1_method_17_code 6 = .ok (.if_icmp .ne 7, 3) := by decide +kernel
theorem d_C_isPart_9 : decode prog_1_method_17_code 9 = .ok (.iconst 1, 1) := by decide +kernel
theorem d_C_isPart_10 : decode prog_1_method_17_code 10 = .ok (.goto 4, 3) := by decide +kernel
theorem d_C_isPart_13 : decode prog_1_method_17_code 13 = .ok (.iconst 0, 1) := by decide +kernel
theorem d_C_isPart_14 : decode prog_1_method_17_code 14 = .ok (.ireturn, 1) := by decide +kernel
theorem d_C_isLine_0 : decode prog_1_method_18_code 0 = .ok (.iload_n 1, 1) := by decide +kernel
theorem d_C_isLine_1 : decode prog_1_method_18_code 1 = .ok (.ifCond .lt 15, 3) := by decide +kernel
theorem d_C_isLine_4 : decode prog_1_method_18_code 4 = .ok (.iload_n 1, 1) := by decide +kernel
theorem d_C_isLine_5 : decode prog_1_method_18_code 5 = .ok (.aload_n 0, 1) := by decide +kernel
theorem d_C_isLine_6 : decode prog_1_method_18_code 6 = .ok (.getfield 19, 3) := by decide +kernel
theorem d_C_isLine_9 : decode prog_1_method_18_code 9 = .ok (.if_icmp .ge 7, 3) := by decide +kernel
theorem d_C_isLine_12 : decode prog_1_method_18_code 12 = .ok (.iconst 1, 1) := by decide +kernel
theorem d_C_isLine_13 : decode prog_1_method_18_code 13 = .ok (.goto 4, 3) := by decide +kernel
theorem d_C_isLine_16 : decode prog_1_method_18_code 16 = .ok (.iconst 0, 1) := by decide +kernel
theorem d_C_isLine_17 : decode prog_1_method_18_code 17 = .ok (.ireturn, 1) := by decide +kernel
theorem d_C_isCell_0 : decode prog_1_method_19_code 0 = .ok (.iload_n 1, 1) := by decide +kernel
theorem d_C_isCell_1 : decode prog_1_method_19_code 1 = .ok (.ifCond .lt 20, 3) := by decide +kernel
theorem d_C_isCell_4 : decode prog_1_method_19_code 4 = .ok (.iload_n 1, 1) := by decide +kernel
theorem d_C_isCell_5 : decode prog_1_method_19_code 5 = .ok (.aload_n 0, 1) := by decide +kernel
theorem d_C_isCell_6 : decode prog_1_method_19_code 6 = .ok (.getfield 45, 3) := by decide +kernel
theorem d_C_isCell_9 : decode prog_1_method_19_code 9 = .ok (.aload_n 0, 1) := by decide +kernel
theorem d_C_isCell_10 : decode prog_1_method_19_code 10 = .ok (.invokevirtual 91, 3) := by decide +kernel
theorem d_C_isCell_13 : decode prog_1_method_19_code 13 = .ok (.iaload, 1) := by decide +kernel
theorem d_C_isCell_14 : decode prog_1_method_19_code 14 = .ok (.if_icmp .ge 7, 3) := by decide +kernel
theorem d_C_isCell_17 : decode prog_1_method_19_code 17 = .ok (.iconst 1, 1) := by decide +kernel
theorem d_C_isCell_18 : decode prog_1_method_19_code 18 = .ok (.goto 4, 3) := by decide +kernel
theorem d_C_isCell_21 : decode prog_1_method_19_code 21 = .ok (.iconst 0, 1) := by decide +kernel
theorem d_C_isCell_22 : decode prog_1_method_19_code 22 = .ok (.ireturn, 1) := by decide +kernel
theorem d_C_stripCount_0 : decode prog_1_method_20_code 0 = .ok (.iconst 2, 1) := by decide +kernel
theorem d_C_stripCount_1 : decode prog_1_method_20_code 1 = .ok (.aload_n 0, 1) := by decide +kernel
theorem d_C_stripCount_2 : decode prog_1_method_20_code 2 = .ok (.getfield 26, 3) := by decide +kernel
theorem d_C_stripCount_5 : decode prog_1_method_20_code 5 = .ok (.getfield 77, 3) := by decide +kernel
theorem d_C_stripCount_8 : decode prog_1_method_20_code 8 = .ok (.imul, 1) := by decide +kernel
theorem d_C_stripCount_9 : decode prog_1_method_20_code 9 = .ok (.iconst 1, 1) := by decide +kernel
theorem d_C_stripCount_10 : decode prog_1_method_20_code 10 = .ok (.iadd, 1) := by decide +kernel
theorem d_C_stripCount_11 : decode prog_1_method_20_code 11 = .ok (.ireturn, 1) := by decide +kernel
theorem d_C_cellsOf_0 : decode prog_1_method_21_code 0 = .ok (.aload_n 0, 1) := by decide +kernel
theorem d_C_cellsOf_1 : decode prog_1_method_21_code 1 = .ok (.getfield 45, 3) := by decide +kernel
theorem d_C_cellsOf_4 : decode prog_1_method_21_code 4 = .ok (.iload_n 1, 1) := by decide +kernel
theorem d_C_cellsOf_5 : decode prog_1_method_21_code 5 = .ok (.iconst 1, 1) := by decide +kernel
theorem d_C_cellsOf_6 : decode prog_1_method_21_code 6 = .ok (.iadd, 1) := by decide +kernel
theorem d_C_cellsOf_7 : decode prog_1_method_21_code 7 = .ok (.iaload, 1) := by decide +kernel
theorem d_C_cellsOf_8 : decode prog_1_method_21_code 8 = .ok (.aload_n 0, 1) := by decide +kernel
theorem d_C_cellsOf_9 : decode prog_1_method_21_code 9 = .ok (.getfield 45, 3) := by decide +kernel
theorem d_C_cellsOf_12 : decode prog_1_method_21_code 12 = .ok (.iload_n 1, 1) := by decide +kernel
theorem d_C_cellsOf_13 : decode prog_1_method_21_code 13 = .ok (.iaload, 1) := by decide +kernel
theorem d_C_cellsOf_14 : decode prog_1_method_21_code 14 = .ok (.isub, 1) := by decide +kernel
theorem d_C_cellsOf_15 : decode prog_1_method_21_code 15 = .ok (.ireturn, 1) := by decide +kernel
theorem d_C_stripOf_0 : decode prog_1_method_22_code 0 = .ok (.aload_n 0, 1) := by decide +kernel
theorem d_C_stripOf_1 : decode prog_1_method_22_code 1 = .ok (.invokevirtual 91, 3) := by decide +kernel
theorem d_C_stripOf_4 : decode prog_1_method_22_code 4 = .ok (.iconst 1, 1) := by decide +kernel
theorem d_C_stripOf_5 : decode prog_1_method_22_code 5 = .ok (.isub, 1) := by decide +kernel
theorem d_C_stripOf_6 : decode prog_1_method_22_code 6 = .ok (.istore_n 2, 1) := by decide +kernel
theorem d_C_stripOf_7 : decode prog_1_method_22_code 7 = .ok (.iconst 0, 1) := by decide +kernel
theorem d_C_stripOf_8 : decode prog_1_method_22_code 8 = .ok (.istore_n 3, 1) := by decide +kernel
theorem d_C_stripOf_9 : decode prog_1_method_22_code 9 = .ok (.iload_n 3, 1) := by decide +kernel
theorem d_C_stripOf_10 : decode prog_1_method_22_code 10 = .ok (.iload_n 2, 1) := by decide +kernel
theorem d_C_stripOf_11 : decode prog_1_method_22_code 11 = .ok (.if_icmp .ge 23, 3) := by decide +kernel
theorem d_C_stripOf_14 : decode prog_1_method_22_code 14 = .ok (.iload_n 1, 1) := by decide +kernel
theorem d_C_stripOf_15 : decode prog_1_method_22_code 15 = .ok (.aload_n 0, 1) := by decide +kernel
theorem d_C_stripOf_16 : decode prog_1_method_22_code 16 = .ok (.getfield 45, 3) := by decide +kernel
theorem d_C_stripOf_19 : decode prog_1_method_22_code 19 = .ok (.iload_n 3, 1) := by decide +kernel
theorem d_C_stripOf_20 : decode prog_1_method_22_code 20 = .ok (.iconst 1, 1) := by decide +kernel
theorem d_C_stripOf_21 : decode prog_1_method_22_code 21 = .ok (.iadd, 1) := by decide +kernel
theorem d_C_stripOf_22 : decode prog_1_method_22_code 22 = .ok (.iaload, 1) := by decide +kernel
theorem d_C_stripOf_23 : decode prog_1_method_22_code 23 = .ok (.if_icmp .ge 5, 3) := by decide +kernel
theorem d_C_stripOf_26 : decode prog_1_method_22_code 26 = .ok (.iload_n 3, 1) := by decide +kernel
theorem d_C_stripOf_27 : decode prog_1_method_22_code 27 = .ok (.ireturn, 1) := by decide +kernel
theorem d_C_stripOf_28 : decode prog_1_method_22_code 28 = .ok (.iinc 3 1, 3) := by decide +kernel
theorem d_C_stripOf_31 : decode prog_1_method_22_code 31 = .ok (.goto (-22), 3) := by decide +kernel
theorem d_C_stripOf_34 : decode prog_1_method_22_code 34 = .ok (.iload_n 2, 1) := by decide +kernel
theorem d_C_stripOf_35 : decode prog_1_method_22_code 35 = .ok (.ireturn, 1) := by decide +kernel
theorem d_C_rebuild_0 : decode prog_1_method_23_code 0 = .ok (.aload_n 0, 1) := by decide +kernel
theorem d_C_rebuild_1 : decode prog_1_method_23_code 1 = .ok (.invokevirtual 145, 3) := by decide +kernel
theorem d_C_rebuild_4 : decode prog_1_method_23_code 4 = .ok (.aload_n 0, 1) := by decide +kernel
theorem d_C_rebuild_5 : decode prog_1_method_23_code 5 = .ok (.invokevirtual 91, 3) := by decide +kernel
theorem d_C_rebuild_8 : decode prog_1_method_23_code 8 = .ok (.istore_n 1, 1) := by decide +kernel
theorem d_C_rebuild_9 : decode prog_1_method_23_code 9 = .ok (.aload_n 0, 1) := by decide +kernel
theorem d_C_rebuild_10 : decode prog_1_method_23_code 10 = .ok (.getfield 45, 3) := by decide +kernel
theorem d_C_rebuild_13 : decode prog_1_method_23_code 13 = .ok (.iconst 0, 1) := by decide +kernel
theorem d_C_rebuild_14 : decode prog_1_method_23_code 14 = .ok (.iconst 0, 1) := by decide +kernel
theorem d_C_rebuild_15 : decode prog_1_method_23_code 15 = .ok (.iastore, 1) := by decide +kernel
theorem d_C_rebuild_16 : decode prog_1_method_23_code 16 = .ok (.iconst 0, 1) := by decide +kernel
theorem d_C_rebuild_17 : decode prog_1_method_23_code 17 = .ok (.istore_n 2, 1) := by decide +kernel
theorem d_C_rebuild_18 : decode prog_1_method_23_code 18 = .ok (.iload_n 2, 1) := by decide +kernel
theorem d_C_rebuild_19 : decode prog_1_method_23_code 19 = .ok (.iload_n 1, 1) := by decide +kernel
theorem d_C_rebuild_20 : decode prog_1_method_23_code 20 = .ok (.if_icmp .ge 14, 3) := by decide +kernel
theorem d_C_rebuild_23 : decode prog_1_method_23_code 23 = .ok (.aload_n 0, 1) := by decide +kernel
theorem d_C_rebuild_24 : decode prog_1_method_23_code 24 = .ok (.iload_n 2, 1) := by decide +kernel
theorem d_C_rebuild_25 : decode prog_1_method_23_code 25 = .ok (.invokevirtual 148, 3) := by decide +kernel
theorem d_C_rebuild_28 : decode prog_1_method_23_code 28 = .ok (.iinc 2 1, 3) := by decide +kernel
theorem d_C_rebuild_31 : decode prog_1_method_23_code 31 = .ok (.goto (-13), 3) := by decide +kernel
theorem d_C_rebuild_34 : decode prog_1_method_23_code 34 = .ok (.return_, 1) := by decide +kernel
theorem d_C_gatherCuts_0 : decode prog_1_method_24_code 0 = .ok (.aload_n 0, 1) := by decide +kernel
theorem d_C_gatherCuts_1 : decode prog_1_method_24_code 1 = .ok (.getfield 26, 3) := by decide +kernel
theorem d_C_gatherCuts_4 : decode prog_1_method_24_code 4 = .ok (.iconst 0, 1) := by decide +kernel
theorem d_C_gatherCuts_5 : decode prog_1_method_24_code 5 = .ok (.putfield 77, 3) := by decide +kernel
theorem d_C_gatherCuts_8 : decode prog_1_method_24_code 8 = .ok (.iconst 0, 1) := by decide +kernel
theorem d_C_gatherCuts_9 : decode prog_1_method_24_code 9 = .ok (.istore_n 1, 1) := by decide +kernel
theorem d_C_gatherCuts_10 : decode prog_1_method_24_code 10 = .ok (.iload_n 1, 1) := by decide +kernel
theorem d_C_gatherCuts_11 : decode prog_1_method_24_code 11 = .ok (.aload_n 0, 1) := by decide +kernel
theorem d_C_gatherCuts_12 : decode prog_1_method_24_code 12 = .ok (.getfield 19, 3) := by decide +kernel
theorem d_C_gatherCuts_15 : decode prog_1_method_24_code 15 = .ok (.if_icmp .ge 106, 3) := by decide +kernel
theorem d_C_gatherCuts_18 : decode prog_1_method_24_code 18 = .ok (.aload_n 0, 1) := by decide +kernel
theorem d_C_gatherCuts_19 : decode prog_1_method_24_code 19 = .ok (.getfield 13, 3) := by decide +kernel
theorem d_C_gatherCuts_22 : decode prog_1_method_24_code 22 = .ok (.iload_n 1, 1) := by decide +kernel
theorem d_C_gatherCuts_23 : decode prog_1_method_24_code 23 = .ok (.iaload, 1) := by decide +kernel
theorem d_C_gatherCuts_24 : decode prog_1_method_24_code 24 = .ok (.ifCond .ne 20, 3) := by decide +kernel
theorem d_C_gatherCuts_27 : decode prog_1_method_24_code 27 = .ok (.aload_n 0, 1) := by decide +kernel
theorem d_C_gatherCuts_28 : decode prog_1_method_24_code 28 = .ok (.aload_n 0, 1) := by decide +kernel
theorem d_C_gatherCuts_29 : decode prog_1_method_24_code 29 = .ok (.getfield 16, 3) := by decide +kernel
theorem d_C_gatherCuts_32 : decode prog_1_method_24_code 32 = .ok (.iload_n 1, 1) := by decide +kernel
theorem d_C_gatherCuts_33 : decode prog_1_method_24_code 33 = .ok (.iaload, 1) := by decide +kernel
theorem d_C_gatherCuts_34 : decode prog_1_method_24_code 34 = .ok (.ineg, 1) := by decide +kernel
theorem d_C_gatherCuts_35 : decode prog_1_method_24_code 35 = .ok (.aload_n 0, 1) := by decide +kernel
theorem d_C_gatherCuts_36 : decode prog_1_method_24_code 36 = .ok (.getfield 9, 3) := by decide +kernel
theorem d_C_gatherCuts_39 : decode prog_1_method_24_code 39 = .ok (.iload_n 1, 1) := by decide +kernel
theorem d_C_gatherCuts_40 : decode prog_1_method_24_code 40 = .ok (.iaload, 1) := by decide +kernel
theorem d_C_gatherCuts_41 : decode prog_1_method_24_code 41 = .ok (.invokevirtual 152, 3) := by decide +kernel
theorem d_C_gatherCuts_44 : decode prog_1_method_24_code 44 = .ok (.iconst 0, 1) := by decide +kernel
theorem d_C_gatherCuts_45 : decode prog_1_method_24_code 45 = .ok (.istore_n 2, 1) := by decide +kernel
theorem d_C_gatherCuts_46 : decode prog_1_method_24_code 46 = .ok (.iload_n 2, 1) := by decide +kernel
theorem d_C_gatherCuts_47 : decode prog_1_method_24_code 47 = .ok (.iload_n 1, 1) := by decide +kernel
theorem d_C_gatherCuts_48 : decode prog_1_method_24_code 48 = .ok (.if_icmp .ge 67, 3) := by decide +kernel
theorem d_C_gatherCuts_51 : decode prog_1_method_24_code 51 = .ok (.aload_n 0, 1) := by decide +kernel
theorem d_C_gatherCuts_52 : decode prog_1_method_24_code 52 = .ok (.aload_n 0, 1) := by decide +kernel
theorem d_C_gatherCuts_53 : decode prog_1_method_24_code 53 = .ok (.getfield 13, 3) := by decide +kernel
theorem d_C_gatherCuts_56 : decode prog_1_method_24_code 56 = .ok (.iload_n 1, 1) := by decide +kernel
theorem d_C_gatherCuts_57 : decode prog_1_method_24_code 57 = .ok (.iaload, 1) := by decide +kernel
theorem d_C_gatherCuts_58 : decode prog_1_method_24_code 58 = .ok (.aload_n 0, 1) := by decide +kernel
theorem d_C_gatherCuts_59 : decode prog_1_method_24_code 59 = .ok (.getfield 16, 3) := by decide +kernel
theorem d_C_gatherCuts_62 : decode prog_1_method_24_code 62 = .ok (.iload_n 2, 1) := by decide +kernel
theorem d_C_gatherCuts_63 : decode prog_1_method_24_code 63 = .ok (.iaload, 1) := by decide +kernel
theorem d_C_gatherCuts_64 : decode prog_1_method_24_code 64 = .ok (.imul, 1) := by decide +kernel
theorem d_C_gatherCuts_65 : decode prog_1_method_24_code 65 = .ok (.aload_n 0, 1) := by decide +kernel
theorem d_C_gatherCuts_66 : decode prog_1_method_24_code 66 = .ok (.getfield 13, 3) := by decide +kernel
theorem d_C_gatherCuts_69 : decode prog_1_method_24_code 69 = .ok (.iload_n 2, 1) := by decide +kernel
theorem d_C_gatherCuts_70 : decode prog_1_method_24_code 70 = .ok (.iaload, 1) := by decide +kernel
theorem d_C_gatherCuts_71 : decode prog_1_method_24_code 71 = .ok (.aload_n 0, 1) := by decide +kernel
theorem d_C_gatherCuts_72 : decode prog_1_method_24_code 72 = .ok (.getfield 16, 3) := by decide +kernel
theorem d_C_gatherCuts_75 : decode prog_1_method_24_code 75 = .ok (.iload_n 1, 1) := by decide +kernel
theorem d_C_gatherCuts_76 : decode prog_1_method_24_code 76 = .ok (.iaload, 1) := by decide +kernel
theorem d_C_gatherCuts_77 : decode prog_1_method_24_code 77 = .ok (.imul, 1) := by decide +kernel
theorem d_C_gatherCuts_78 : decode prog_1_method_24_code 78 = .ok (.isub, 1) := by decide +kernel
theorem d_C_gatherCuts_79 : decode prog_1_method_24_code 79 = .ok (.aload_n 0, 1) := by decide +kernel
theorem d_C_gatherCuts_80 : decode prog_1_method_24_code 80 = .ok (.getfield 9, 3) := by decide +kernel
theorem d_C_gatherCuts_83 : decode prog_1_method_24_code 83 = .ok (.iload_n 1, 1) := by decide +kernel
theorem d_C_gatherCuts_84 : decode prog_1_method_24_code 84 = .ok (.iaload, 1) := by decide +kernel
theorem d_C_gatherCuts_85 : decode prog_1_method_24_code 85 = .ok (.aload_n 0, 1) := by decide +kernel
theorem d_C_gatherCuts_86 : decode prog_1_method_24_code 86 = .ok (.getfield 13, 3) := by decide +kernel
theorem d_C_gatherCuts_89 : decode prog_1_method_24_code 89 = .ok (.iload_n 2, 1) := by decide +kernel
theorem d_C_gatherCuts_90 : decode prog_1_method_24_code 90 = .ok (.iaload, 1) := by decide +kernel
theorem d_C_gatherCuts_91 : decode prog_1_method_24_code 91 = .ok (.imul, 1) := by decide +kernel
theorem d_C_gatherCuts_92 : decode prog_1_method_24_code 92 = .ok (.aload_n 0, 1) := by decide +kernel
theorem d_C_gatherCuts_93 : decode prog_1_method_24_code 93 = .ok (.getfield 9, 3) := by decide +kernel
theorem d_C_gatherCuts_96 : decode prog_1_method_24_code 96 = .ok (.iload_n 2, 1) := by decide +kernel
theorem d_C_gatherCuts_97 : decode prog_1_method_24_code 97 = .ok (.iaload, 1) := by decide +kernel
theorem d_C_gatherCuts_98 : decode prog_1_method_24_code 98 = .ok (.aload_n 0, 1) := by decide +kernel
theorem d_C_gatherCuts_99 : decode prog_1_method_24_code 99 = .ok (.getfield 13, 3) := by decide +kernel
theorem d_C_gatherCuts_102 : decode prog_1_method_24_code 102 = .ok (.iload_n 1, 1) := by decide +kernel
theorem d_C_gatherCuts_103 : decode prog_1_method_24_code 103 = .ok (.iaload, 1) := by decide +kernel
theorem d_C_gatherCuts_104 : decode prog_1_method_24_code 104 = .ok (.imul, 1) := by decide +kernel
theorem d_C_gatherCuts_105 : decode prog_1_method_24_code 105 = .ok (.isub, 1) := by decide +kernel
theorem d_C_gatherCuts_106 : decode prog_1_method_24_code 106 = .ok (.invokevirtual 152, 3) := by decide +kernel
theorem d_C_gatherCuts_109 : decode prog_1_method_24_code 109 = .ok (.iinc 2 1, 3) := by decide +kernel
theorem d_C_gatherCuts_112 : decode prog_1_method_24_code 112 = .ok (.goto (-66), 3) := by decide +kernel
theorem d_C_gatherCuts_115 : decode prog_1_method_24_code 115 = .ok (.iinc 1 1, 3) := by decide +kernel
theorem d_C_gatherCuts_118 : decode prog_1_method_24_code 118 = .ok (.goto (-108), 3) := by decide +kernel
theorem d_C_gatherCuts_121 : decode prog_1_method_24_code 121 = .ok (.return_, 1) := by decide +kernel
theorem d_C_addCut_0 : decode prog_1_method_25_code 0 = .ok (.iload_n 2, 1) := by decide +kernel
theorem d_C_addCut_1 : decode prog_1_method_25_code 1 = .ok (.ifCond .le 17, 3) := by decide +kernel
theorem d_C_addCut_4 : decode prog_1_method_25_code 4 = .ok (.aload_n 0, 1) := by decide +kernel
theorem d_C_addCut_5 : decode prog_1_method_25_code 5 = .ok (.getfield 26, 3) := by decide +kernel
theorem d_C_addCut_8 : decode prog_1_method_25_code 8 = .ok (.iload_n 1, 1) := by decide +kernel
theorem d_C_addCut_9 : decode prog_1_method_25_code 9 = .ok (.i2l, 1) := by decide +kernel
theorem d_C_addCut_10 : decode prog_1_method_25_code 10 = .ok (.iload_n 2, 1) := by decide +kernel
theorem d_C_addCut_11 : decode prog_1_method_25_code 11 = .ok (.i2l, 1) := by decide +kernel
theorem d_C_addCut_12 : decode prog_1_method_25_code 12 = .ok (.invokevirtual 156, 3) := by decide +kernel
theorem d_C_addCut_15 : decode prog_1_method_25_code 15 = .ok (.goto 20, 3) := by decide +kernel
theorem d_C_addCut_18 : decode prog_1_method_25_code 18 = .ok (.iload_n 2, 1) := by decide +kernel
theorem d_C_addCut_19 : decode prog_1_method_25_code 19 = .ok (.ifCond .ge 16, 3) := by decide +kernel
theorem d_C_addCut_22 : decode prog_1_method_25_code 22 = .ok (.aload_n 0, 1) := by decide +kernel
theorem d_C_addCut_23 : decode prog_1_method_25_code 23 = .ok (.getfield 26, 3) := by decide +kernel
theorem d_C_addCut_26 : decode prog_1_method_25_code 26 = .ok (.iload_n 1, 1) := by decide +kernel
theorem d_C_addCut_27 : decode prog_1_method_25_code 27 = .ok (.ineg, 1) := by decide +kernel
theorem d_C_addCut_28 : decode prog_1_method_25_code 28 = .ok (.i2l, 1) := by decide +kernel
theorem d_C_addCut_29 : decode prog_1_method_25_code 29 = .ok (.iload_n 2, 1) := by decide +kernel
theorem d_C_addCut_30 : decode prog_1_method_25_code 30 = .ok (.ineg, 1) := by decide +kernel
theorem d_C_addCut_31 : decode prog_1_method_25_code 31 = .ok (.i2l, 1) := by decide +kernel
theorem d_C_addCut_32 : decode prog_1_method_25_code 32 = .ok (.invokevirtual 156, 3) := by decide +kernel
theorem d_C_addCut_35 : decode prog_1_method_25_code 35 = .ok (.return_, 1) := by decide +kernel
theorem d_C_layStrip_0 : decode prog_1_method_26_code 0 = .ok (.aload_n 0, 1) := by decide +kernel
theorem d_C_layStrip_1 : decode prog_1_method_26_code 1 = .ok (.getfield 26, 3) := by decide +kernel
theorem d_C_layStrip_4 : decode prog_1_method_26_code 4 = .ok (.iload_n 1, 1) := by decide +kernel
theorem d_C_layStrip_5 : decode prog_1_method_26_code 5 = .ok (.iconst 0, 1) := by decide +kernel
theorem d_C_layStrip_6 : decode prog_1_method_26_code 6 = .ok (.invokevirtual 87, 3) := by decide +kernel
theorem d_C_layStrip_9 : decode prog_1_method_26_code 9 = .ok (.lstore_n 2, 1) := by decide +kernel
theorem d_C_layStrip_10 : decode prog_1_method_26_code 10 = .ok (.aload_n 0, 1) := by decide +kernel
theorem d_C_layStrip_11 : decode prog_1_method_26_code 11 = .ok (.getfield 26, 3) := by decide +kernel
theorem d_C_layStrip_14 : decode prog_1_method_26_code 14 = .ok (.iload_n 1, 1) := by decide +kernel
theorem d_C_layStrip_15 : decode prog_1_method_26_code 15 = .ok (.iconst 1, 1) := by decide +kernel
theorem d_C_layStrip_16 : decode prog_1_method_26_code 16 = .ok (.invokevirtual 87, 3) := by decide +kernel
theorem d_C_layStrip_19 : decode prog_1_method_26_code 19 = .ok (.lstore 4, 2) := by decide +kernel
theorem d_C_layStrip_21 : decode prog_1_method_26_code 21 = .ok (.aload_n 0, 1) := by decide +kernel
theorem d_C_layStrip_22 : decode prog_1_method_26_code 22 = .ok (.getfield 33, 3) := by decide +kernel
theorem d_C_layStrip_25 : decode prog_1_method_26_code 25 = .ok (.iload_n 1, 1) := by decide +kernel
theorem d_C_layStrip_26 : decode prog_1_method_26_code 26 = .ok (.lload_n 2, 1) := by decide +kernel
theorem d_C_layStrip_27 : decode prog_1_method_26_code 27 = .ok (.lastore, 1) := by decide +kernel
theorem d_C_layStrip_28 : decode prog_1_method_26_code 28 = .ok (.aload_n 0, 1) := by decide +kernel
theorem d_C_layStrip_29 : decode prog_1_method_26_code 29 = .ok (.getfield 37, 3) := by decide +kernel
theorem d_C_layStrip_32 : decode prog_1_method_26_code 32 = .ok (.iload_n 1, 1) := by decide +kernel
theorem d_C_layStrip_33 : decode prog_1_method_26_code 33 = .ok (.lload 4, 2) := by decide +kernel
theorem d_C_layStrip_35 : decode prog_1_method_26_code 35 = .ok (.lastore, 1) := by decide +kernel
theorem d_C_layStrip_36 : decode prog_1_method_26_code 36 = .ok (.aload_n 0, 1) := by decide +kernel
theorem d_C_layStrip_37 : decode prog_1_method_26_code 37 = .ok (.lload_n 2, 1) := by decide +kernel
theorem d_C_layStrip_38 : decode prog_1_method_26_code 38 = .ok (.lload 4, 2) := by decide +kernel
theorem d_C_layStrip_40 : decode prog_1_method_26_code 40 = .ok (.invokevirtual 113, 3) := by decide +kernel
theorem d_C_layStrip_43 : decode prog_1_method_26_code 43 = .ok (.iconst 0, 1) := by decide +kernel
theorem d_C_layStrip_44 : decode prog_1_method_26_code 44 = .ok (.istore 6, 2) := by decide +kernel
theorem d_C_layStrip_46 : decode prog_1_method_26_code 46 = .ok (.iload 6, 2) := by decide +kernel
theorem d_C_layStrip_48 : decode prog_1_method_26_code 48 = .ok (.aload_n 0, 1) := by decide +kernel
theorem d_C_layStrip_49 : decode prog_1_method_26_code 49 = .ok (.getfield 19, 3) := by decide +kernel
theorem d_C_layStrip_52 : decode prog_1_method_26_code 52 = .ok (.if_icmp .ge 56, 3) := by decide +kernel
theorem d_C_layStrip_55 : decode prog_1_method_26_code 55 = .ok (.aload_n 0, 1) := by decide +kernel
theorem d_C_layStrip_56 : decode prog_1_method_26_code 56 = .ok (.getfield 42, 3) := by decide +kernel
theorem d_C_layStrip_59 : decode prog_1_method_26_code 59 = .ok (.iload_n 1, 1) := by decide +kernel
theorem d_C_layStrip_60 : decode prog_1_method_26_code 60 = .ok (.aaload, 1) := by decide +kernel
theorem d_C_layStrip_61 : decode prog_1_method_26_code 61 = .ok (.iload 6, 2) := by decide +kernel
theorem d_C_layStrip_63 : decode prog_1_method_26_code 63 = .ok (.aload_n 0, 1) := by decide +kernel
theorem d_C_layStrip_64 : decode prog_1_method_26_code 64 = .ok (.getfield 13, 3) := by decide +kernel
theorem d_C_layStrip_67 : decode prog_1_method_26_code 67 = .ok (.iload 6, 2) := by decide +kernel
theorem d_C_layStrip_69 : decode prog_1_method_26_code 69 = .ok (.iaload, 1) := by decide +kernel
theorem d_C_layStrip_70 : decode prog_1_method_26_code 70 = .ok (.ifCond .ne 7, 3) := by decide +kernel
theorem d_C_layStrip_73 : decode prog_1_method_26_code 73 = .ok (.iconst (-1), 1) := by decide +kernel
theorem d_C_layStrip_74 : decode prog_1_method_26_code 74 = .ok (.goto 27, 3) := by decide +kernel
theorem d_C_layStrip_77 : decode prog_1_method_26_code 77 = .ok (.aload_n 0, 1) := by decide +kernel
theorem d_C_layStrip_78 : decode prog_1_method_26_code 78 = .ok (.getfield 30, 3) := by decide +kernel
theorem d_C_layStrip_81 : decode prog_1_method_26_code 81 = .ok (.aload_n 0, 1) := by decide +kernel
theorem d_C_layStrip_82 : decode prog_1_method_26_code 82 = .ok (.iload 6, 2) := by decide +kernel
theorem d_C_layStrip_84 : decode prog_1_method_26_code 84 = .ok (.lload_n 2, 1) := by decide +kernel
theorem d_C_layStrip_85 : decode prog_1_method_26_code 85 = .ok (.lload 4, 2) := by decide +kernel
theorem d_C_layStrip_87 : decode prog_1_method_26_code 87 = .ok (.invokevirtual 159, 3) := by decide +kernel
theorem d_C_layStrip_90 : decode prog_1_method_26_code 90 = .ok (.aload_n 0, 1) := by decide +kernel
theorem d_C_layStrip_91 : decode prog_1_method_26_code 91 = .ok (.iload 6, 2) := by decide +kernel
theorem d_C_layStrip_93 : decode prog_1_method_26_code 93 = .ok (.lload 4, 2) := by decide +kernel
theorem d_C_layStrip_95 : decode prog_1_method_26_code 95 = .ok (.invokevirtual 163, 3) := by decide +kernel
theorem d_C_layStrip_98 : decode prog_1_method_26_code 98 = .ok (.invokevirtual 128, 3) := by decide +kernel
theorem d_C_layStrip_101 : decode prog_1_method_26_code 101 = .ok (.iastore, 1) := by decide +kernel
theorem d_C_layStrip_102 : decode prog_1_method_26_code 102 = .ok (.iinc 6 1, 3) := by decide +kernel
theorem d_C_layStrip_105 : decode prog_1_method_26_code 105 = .ok (.goto (-59), 3) := by decide +kernel
theorem d_C_layStrip_108 : decode prog_1_method_26_code 108 = .ok (.aload_n 0, 1) := by decide +kernel
theorem d_C_layStrip_109 : decode prog_1_method_26_code 109 = .ok (.getfield 45, 3) := by decide +kernel
theorem d_C_layStrip_112 : decode prog_1_method_26_code 112 = .ok (.iload_n 1, 1) := by decide +kernel
theorem d_C_layStrip_113 : decode prog_1_method_26_code 113 = .ok (.iconst 1, 1) := by decide +kernel
theorem d_C_layStrip_114 : decode prog_1_method_26_code 114 = .ok (.iadd, 1) := by decide +kernel
theorem d_C_layStrip_115 : decode prog_1_method_26_code 115 = .ok (.aload_n 0, 1) := by decide +kernel
theorem d_C_layStrip_116 : decode prog_1_method_26_code 116 = .ok (.getfield 45, 3) := by decide +kernel
theorem d_C_layStrip_119 : decode prog_1_method_26_code 119 = .ok (.iload_n 1, 1) := by decide +kernel
theorem d_C_layStrip_120 : decode prog_1_method_26_code 120 = .ok (.iaload, 1) := by decide +kernel
theorem d_C_layStrip_121 : decode prog_1_method_26_code 121 = .ok (.iconst 2, 1) := by decide +kernel
theorem d_C_layStrip_122 : decode prog_1_method_26_code 122 = .ok (.aload_n 0, 1) := by decide +kernel
theorem d_C_layStrip_123 : decode prog_1_method_26_code 123 = .ok (.getfield 30, 3) := by decide +kernel
theorem d_C_layStrip_126 : decode prog_1_method_26_code 126 = .ok (.getfield 77, 3) := by decide +kernel
theorem d_C_layStrip_129 : decode prog_1_method_26_code 129 = .ok (.imul, 1) := by decide +kernel
theorem d_C_layStrip_130 : decode prog_1_method_26_code 130 = .ok (.iadd, 1) := by decide +kernel
theorem d_C_layStrip_131 : decode prog_1_method_26_code 131 = .ok (.iconst 1, 1) := by decide +kernel
theorem d_C_layStrip_132 : decode prog_1_method_26_code 132 = .ok (.iadd, 1) := by decide +kernel
theorem d_C_layStrip_133 : decode prog_1_method_26_code 133 = .ok (.iastore, 1) := by decide +kernel
theorem d_C_layStrip_134 : decode prog_1_method_26_code 134 = .ok (.return_, 1) := by decide +kernel
theorem d_C_measureHeights_0 : decode prog_1_method_27_code 0 = .ok (.aload_n 0, 1) := by decide +kernel
theorem d_C_measureHeights_1 : decode prog_1_method_27_code 1 = .ok (.getfield 30, 3) := by decide +kernel
theorem d_C_measureHeights_4 : decode prog_1_method_27_code 4 = .ok (.iconst 0, 1) := by decide +kernel
theorem d_C_measureHeights_5 : decode prog_1_method_27_code 5 = .ok (.putfield 77, 3) := by decide +kernel
theorem d_C_measureHeights_8 : decode prog_1_method_27_code 8 = .ok (.iconst 0, 1) := by decide +kernel
theorem d_C_measureHeights_9 : decode prog_1_method_27_code 9 = .ok (.istore 5, 2) := by decide +kernel
theorem d_C_measureHeights_11 : decode prog_1_method_27_code 11 = .ok (.iload 5, 2) := by decide +kernel
theorem d_C_measureHeights_13 : decode prog_1_method_27_code 13 = .ok (.aload_n 0, 1) := by decide +kernel
theorem d_C_measureHeights_14 : decode prog_1_method_27_code 14 = .ok (.getfield 19, 3) := by decide +kernel
theorem d_C_measureHeights_17 : decode prog_1_method_27_code 17 = .ok (.if_icmp .ge 41, 3) := by decide +kernel
theorem d_C_measureHeights_20 : decode prog_1_method_27_code 20 = .ok (.aload_n 0, 1) := by decide +kernel
theorem d_C_measureHeights_21 : decode prog_1_method_27_code 21 = .ok (.getfield 13, 3) := by decide +kernel
theorem d_C_measureHeights_24 : decode prog_1_method_27_code 24 = .ok (.iload 5, 2) := by decide +kernel
theorem d_C_measureHeights_26 : decode prog_1_method_27_code 26 = .ok (.iaload, 1) := by decide +kernel
theorem d_C_measureHeights_27 : decode prog_1_method_27_code 27 = .ok (.ifCond .eq 25, 3) := by decide +kernel
theorem d_C_measureHeights_30 : decode prog_1_method_27_code 30 = .ok (.aload_n 0, 1) := by decide +kernel
theorem d_C_measureHeights_31 : decode prog_1_method_27_code 31 = .ok (.getfield 30, 3) := by decide +kernel
theorem d_C_measureHeights_34 : decode prog_1_method_27_code 34 = .ok (.aload_n 0, 1) := by decide +kernel
theorem d_C_measureHeights_35 : decode prog_1_method_27_code 35 = .ok (.iload 5, 2) := by decide +kernel
theorem d_C_measureHeights_37 : decode prog_1_method_27_code 37 = .ok (.lload_n 1, 1) := by decide +kernel
theorem d_C_measureHeights_38 : decode prog_1_method_27_code 38 = .ok (.lload_n 3, 1) := by decide +kernel
theorem d_C_measureHeights_39 : decode prog_1_method_27_code 39 = .ok (.invokevirtual 159, 3) := by decide +kernel
theorem d_C_measureHeights_42 : decode prog_1_method_27_code 42 = .ok (.aload_n 0, 1) := by decide +kernel
theorem d_C_measureHeights_43 : decode prog_1_method_27_code 43 = .ok (.iload 5, 2) := by decide +kernel
theorem d_C_measureHeights_45 : decode prog_1_method_27_code 45 = .ok (.lload_n 3, 1) := by decide +kernel
theorem d_C_measureHeights_46 : decode prog_1_method_27_code 46 = .ok (.invokevirtual 163, 3) := by decide +kernel
theorem d_C_measureHeights_49 : decode prog_1_method_27_code 49 = .ok (.invokevirtual 156, 3) := by decide +kernel
theorem d_C_measureHeights_52 : decode prog_1_method_27_code 52 = .ok (.iinc 5 1, 3) := by decide +kernel
theorem d_C_measureHeights_55 : decode prog_1_method_27_code 55 = .ok (.goto (-44), 3) := by decide +kernel
theorem d_C_measureHeights_58 : decode prog_1_method_27_code 58 = .ok (.return_, 1) := by decide +kernel
theorem d_C_heightAbove_0 : decode prog_1_method_28_code 0 = .ok (.aload_n 0, 1) := by decide +kernel
theorem d_C_heightAbove_1 : decode prog_1_method_28_code 1 = .ok (.getfield 9, 3) := by decide +kernel
theorem d_C_heightAbove_4 : decode prog_1_method_28_code 4 = .ok (.iload_n 1, 1) := by decide +kernel
theorem d_C_heightAbove_5 : decode prog_1_method_28_code 5 = .ok (.iaload, 1) := by decide +kernel
theorem d_C_heightAbove_6 : decode prog_1_method_28_code 6 = .ok (.i2l, 1) := by decide +kernel
theorem d_C_heightAbove_7 : decode prog_1_method_28_code 7 = .ok (.lload_n 2, 1) := by decide +kernel
theorem d_C_heightAbove_8 : decode prog_1_method_28_code 8 = .ok (.lmul, 1) := by decide +kernel
theorem d_C_heightAbove_9 : decode prog_1_method_28_code 9 = .ok (.aload_n 0, 1) := by decide +kernel
theorem d_C_heightAbove_10 : decode prog_1_method_28_code 10 = .ok (.getfield 16, 3) := by decide +kernel
theorem d_C_heightAbove_13 : decode prog_1_method_28_code 13 = .ok (.iload_n 1, 1) := by decide +kernel
theorem d_C_heightAbove_14 : decode prog_1_method_28_code 14 = .ok (.iaload, 1) := by decide +kernel
theorem d_C_heightAbove_15 : decode prog_1_method_28_code 15 = .ok (.i2l, 1) := by decide +kernel
theorem d_C_heightAbove_16 : decode prog_1_method_28_code 16 = .ok (.lload 4, 2) := by decide +kernel
theorem d_C_heightAbove_18 : decode prog_1_method_28_code 18 = .ok (.lmul, 1) := by decide +kernel
theorem d_C_heightAbove_19 : decode prog_1_method_28_code 19 = .ok (.ladd, 1) := by decide +kernel
theorem d_C_heightAbove_20 : decode prog_1_method_28_code 20 = .ok (.lstore 6, 2) := by decide +kernel
theorem d_C_heightAbove_22 : decode prog_1_method_28_code 22 = .ok (.aload_n 0, 1) := by decide +kernel
theorem d_C_heightAbove_23 : decode prog_1_method_28_code 23 = .ok (.getfield 13, 3) := by decide +kernel
theorem d_C_heightAbove_26 : decode prog_1_method_28_code 26 = .ok (.iload_n 1, 1) := by decide +kernel
theorem d_C_heightAbove_27 : decode prog_1_method_28_code 27 = .ok (.iaload, 1) := by decide +kernel
theorem d_C_heightAbove_28 : decode prog_1_method_28_code 28 = .ok (.ifCond .le 9, 3) := by decide +kernel
theorem d_C_heightAbove_31 : decode prog_1_method_28_code 31 = .ok (.lload 6, 2) := by decide +kernel
theorem d_C_heightAbove_33 : decode prog_1_method_28_code 33 = .ok (.lneg, 1) := by decide +kernel
theorem d_C_heightAbove_34 : decode prog_1_method_28_code 34 = .ok (.goto 5, 3) := by decide +kernel
theorem d_C_heightAbove_37 : decode prog_1_method_28_code 37 = .ok (.lload 6, 2) := by decide +kernel
theorem d_C_heightAbove_39 : decode prog_1_method_28_code 39 = .ok (.lreturn, 1) := by decide +kernel
theorem d_C_heightBelow_0 : decode prog_1_method_29_code 0 = .ok (.aload_n 0, 1) := by decide +kernel
theorem d_C_heightBelow_1 : decode prog_1_method_29_code 1 = .ok (.getfield 13, 3) := by decide +kernel
theorem d_C_heightBelow_4 : decode prog_1_method_29_code 4 = .ok (.iload_n 1, 1) := by decide +kernel
theorem d_C_heightBelow_5 : decode prog_1_method_29_code 5 = .ok (.iaload, 1) := by decide +kernel
theorem d_C_heightBelow_6 : decode prog_1_method_29_code 6 = .ok (.invokestatic 136, 3) := by decide +kernel
theorem d_C_heightBelow_9 : decode prog_1_method_29_code 9 = .ok (.i2l, 1) := by decide +kernel
theorem d_C_heightBelow_10 : decode prog_1_method_29_code 10 = .ok (.lload_n 2, 1) := by decide +kernel
theorem d_C_heightBelow_11 : decode prog_1_method_29_code 11 = .ok (.lmul, 1) := by decide +kernel
theorem d_C_heightBelow_12 : decode prog_1_method_29_code 12 = .ok (.lreturn, 1) := by decide +kernel
theorem d_C_signIn_0 : decode prog_1_method_30_code 0 = .ok (.aload_n 0, 1) := by decide +kernel
theorem d_C_signIn_1 : decode prog_1_method_30_code 1 = .ok (.getfield 13, 3) := by decide +kernel
theorem d_C_signIn_4 : decode prog_1_method_30_code 4 = .ok (.iload_n 3, 1) := by decide +kernel
theorem d_C_signIn_5 : decode prog_1_method_30_code 5 = .ok (.iaload, 1) := by decide +kernel
theorem d_C_signIn_6 : decode prog_1_method_30_code 6 = .ok (.ifCond .ne 37, 3) := by decide +kernel
theorem d_C_signIn_9 : decode prog_1_method_30_code 9 = .ok (.aload_n 0, 1) := by decide +kernel
theorem d_C_signIn_10 : decode prog_1_method_30_code 10 = .ok (.getfield 9, 3) := by decide +kernel
theorem d_C_signIn_13 : decode prog_1_method_30_code 13 = .ok (.iload_n 3, 1) := by decide +kernel
theorem d_C_signIn_14 : decode prog_1_method_30_code 14 = .ok (.iaload, 1) := by decide +kernel
theorem d_C_signIn_15 : decode prog_1_method_30_code 15 = .ok (.i2l, 1) := by decide +kernel
theorem d_C_signIn_16 : decode prog_1_method_30_code 16 = .ok (.aload_n 0, 1) := by decide +kernel
theorem d_C_signIn_17 : decode prog_1_method_30_code 17 = .ok (.getfield 33, 3) := by decide +kernel
theorem d_C_signIn_20 : decode prog_1_method_30_code 20 = .ok (.iload_n 1, 1) := by decide +kernel
theorem d_C_signIn_21 : decode prog_1_method_30_code 21 = .ok (.laload, 1) := by decide +kernel
theorem d_C_signIn_22 : decode prog_1_method_30_code 22 = .ok (.lmul, 1) := by decide +kernel
theorem d_C_signIn_23 : decode prog_1_method_30_code 23 = .ok (.aload_n 0, 1) := by decide +kernel
theorem d_C_signIn_24 : decode prog_1_method_30_code 24 = .ok (.getfield 16, 3) := by decide +kernel
theorem d_C_signIn_27 : decode prog_1_method_30_code 27 = .ok (.iload_n 3, 1) := by decide +kernel
theorem d_C_signIn_28 : decode prog_1_method_30_code 28 = .ok (.iaload, 1) := by decide +kernel
theorem d_C_signIn_29 : decode prog_1_method_30_code 29 = .ok (.i2l, 1) := by decide +kernel
theorem d_C_signIn_30 : decode prog_1_method_30_code 30 = .ok (.aload_n 0, 1) := by decide +kernel
theorem d_C_signIn_31 : decode prog_1_method_30_code 31 = .ok (.getfield 37, 3) := by decide +kernel
theorem d_C_signIn_34 : decode prog_1_method_30_code 34 = .ok (.iload_n 1, 1) := by decide +kernel
theorem d_C_signIn_35 : decode prog_1_method_30_code 35 = .ok (.laload, 1) := by decide +kernel
theorem d_C_signIn_36 : decode prog_1_method_30_code 36 = .ok (.lmul, 1) := by decide +kernel
theorem d_C_signIn_37 : decode prog_1_method_30_code 37 = .ok (.ladd, 1) := by decide +kernel
theorem d_C_signIn_38 : decode prog_1_method_30_code 38 = .ok (.lconst 0, 1) := by decide +kernel
theorem d_C_signIn_39 : decode prog_1_method_30_code 39 = .ok (.invokestatic 167, 3) := by decide +kernel
theorem d_C_signIn_42 : decode prog_1_method_30_code 42 = .ok (.ireturn, 1) := by decide +kernel
theorem d_C_signIn_43 : decode prog_1_method_30_code 43 = .ok (.iload_n 2, 1) := by decide +kernel
theorem d_C_signIn_44 : decode prog_1_method_30_code 44 = .ok (.aload_n 0, 1) := by decide +kernel
theorem d_C_signIn_45 : decode prog_1_method_30_code 45 = .ok (.getfield 42, 3) := by decide +kernel
theorem d_C_signIn_48 : decode prog_1_method_30_code 48 = .ok (.iload_n 1, 1) := by decide +kernel
theorem d_C_signIn_49 : decode prog_1_method_30_code 49 = .ok (.aaload, 1) := by decide +kernel
theorem d_C_signIn_50 : decode prog_1_method_30_code 50 = .ok (.iload_n 3, 1) := by decide +kernel
theorem d_C_signIn_51 : decode prog_1_method_30_code 51 = .ok (.iaload, 1) := by decide +kernel
theorem d_C_signIn_52 : decode prog_1_method_30_code 52 = .ok (.invokestatic 172, 3) := by decide +kernel
theorem d_C_signIn_55 : decode prog_1_method_30_code 55 = .ok (.istore 4, 2) := by decide +kernel
theorem d_C_signIn_57 : decode prog_1_method_30_code 57 = .ok (.aload_n 0, 1) := by decide +kernel
theorem d_C_signIn_58 : decode prog_1_method_30_code 58 = .ok (.getfield 13, 3) := by decide +kernel
theorem d_C_signIn_61 : decode prog_1_method_30_code 61 = .ok (.iload_n 3, 1) := by decide +kernel
theorem d_C_signIn_62 : decode prog_1_method_30_code 62 = .ok (.iaload, 1) := by decide +kernel
theorem d_C_signIn_63 : decode prog_1_method_30_code 63 = .ok (.ifCond .le 8, 3) := by decide +kernel
theorem d_C_signIn_66 : decode prog_1_method_30_code 66 = .ok (.iload 4, 2) := by decide +kernel
theorem d_C_signIn_68 : decode prog_1_method_30_code 68 = .ok (.goto 6, 3) := by decide +kernel
theorem d_C_signIn_71 : decode prog_1_method_30_code 71 = .ok (.iload 4, 2) := by decide +kernel
theorem d_C_signIn_73 : decode prog_1_method_30_code 73 = .ok (.ineg, 1) := by decide +kernel
theorem d_C_signIn_74 : decode prog_1_method_30_code 74 = .ok (.ireturn, 1) := by decide +kernel
theorem d_C_hasSigns_0 : decode prog_1_method_31_code 0 = .ok (.iconst 0, 1) := by decide +kernel
theorem d_C_hasSigns_1 : decode prog_1_method_31_code 1 = .ok (.istore 4, 2) := by decide +kernel
theorem d_C_hasSigns_3 : decode prog_1_method_31_code 3 = .ok (.iload 4, 2) := by decide +kernel
theorem d_C_hasSigns_5 : decode prog_1_method_31_code 5 = .ok (.aload_n 0, 1) := by decide +kernel
theorem d_C_hasSigns_6 : decode prog_1_method_31_code 6 = .ok (.getfield 19, 3) := by decide +kernel
theorem d_C_hasSigns_9 : decode prog_1_method_31_code 9 = .ok (.if_icmp .ge 42, 3) := by decide +kernel
theorem d_C_hasSigns_12 : decode prog_1_method_31_code 12 = .ok (.iload_n 3, 1) := by decide +kernel
theorem d_C_hasSigns_13 : decode prog_1_method_31_code 13 = .ok (.iconst 2, 1) := by decide +kernel
theorem d_C_hasSigns_14 : decode prog_1_method_31_code 14 = .ok (.iload 4, 2) := by decide +kernel
theorem d_C_hasSigns_16 : decode prog_1_method_31_code 16 = .ok (.imul, 1) := by decide +kernel
theorem d_C_hasSigns_17 : decode prog_1_method_31_code 17 = .ok (.ishr, 1) := by decide +kernel
theorem d_C_hasSigns_18 : decode prog_1_method_31_code 18 = .ok (.iconst 3, 1) := by decide +kernel
theorem d_C_hasSigns_19 : decode prog_1_method_31_code 19 = .ok (.iand, 1) := by decide +kernel
theorem d_C_hasSigns_20 : decode prog_1_method_31_code 20 = .ok (.istore 5, 2) := by decide +kernel
theorem d_C_hasSigns_22 : decode prog_1_method_31_code 22 = .ok (.iload 5, 2) := by decide +kernel
theorem d_C_hasSigns_24 : decode prog_1_method_31_code 24 = .ok (.ifCond .eq 21, 3) := by decide +kernel
theorem d_C_hasSigns_27 : decode prog_1_method_31_code 27 = .ok (.iload 5, 2) := by decide +kernel
theorem d_C_hasSigns_29 : decode prog_1_method_31_code 29 = .ok (.aload_n 0, 1) := by decide +kernel
theorem d_C_hasSigns_30 : decode prog_1_method_31_code 30 = .ok (.iload_n 1, 1) := by decide +kernel
theorem d_C_hasSigns_31 : decode prog_1_method_31_code 31 = .ok (.iload_n 2, 1) := by decide +kernel
theorem d_C_hasSigns_32 : decode prog_1_method_31_code 32 = .ok (.iload 4, 2) := by decide +kernel
theorem d_C_hasSigns_34 : decode prog_1_method_31_code 34 = .ok (.invokevirtual 117, 3) := by decide +kernel
theorem d_C_hasSigns_37 : decode prog_1_method_31_code 37 = .ok (.invokestatic 177, 3) := by decide +kernel
theorem d_C_hasSigns_40 : decode prog_1_method_31_code 40 = .ok (.if_icmp .eq 5, 3) := by decide +kernel
theorem d_C_hasSigns_43 : decode prog_1_method_31_code 43 = .ok (.iconst 0, 1) := by decide +kernel
theorem d_C_hasSigns_44 : decode prog_1_method_31_code 44 = .ok (.ireturn, 1) := by decide +kernel
theorem d_C_hasSigns_45 : decode prog_1_method_31_code 45 = .ok (.iinc 4 1, 3) := by decide +kernel
theorem d_C_hasSigns_48 : decode prog_1_method_31_code 48 = .ok (.goto (-45), 3) := by decide +kernel
theorem d_C_hasSigns_51 : decode prog_1_method_31_code 51 = .ok (.iconst 1, 1) := by decide +kernel
theorem d_C_hasSigns_52 : decode prog_1_method_31_code 52 = .ok (.ireturn, 1) := by decide +kernel
theorem d_C_wantFor_0 : decode prog_1_method_32_code 0 = .ok (.iload_n 0, 1) := by decide +kernel
theorem d_C_wantFor_1 : decode prog_1_method_32_code 1 = .ok (.ifCond .ne 5, 3) := by decide +kernel
theorem d_C_wantFor_4 : decode prog_1_method_32_code 4 = .ok (.iconst 3, 1) := by decide +kernel
theorem d_C_wantFor_5 : decode prog_1_method_32_code 5 = .ok (.ireturn, 1) := by decide +kernel
theorem d_C_wantFor_6 : decode prog_1_method_32_code 6 = .ok (.iload_n 0, 1) := by decide +kernel
theorem d_C_wantFor_7 : decode prog_1_method_32_code 7 = .ok (.ifCond .le 7, 3) := by decide +kernel
theorem d_C_wantFor_10 : decode prog_1_method_32_code 10 = .ok (.iconst 1, 1) := by decide +kernel
theorem d_C_wantFor_11 : decode prog_1_method_32_code 11 = .ok (.goto 4, 3) := by decide +kernel
theorem d_C_wantFor_14 : decode prog_1_method_32_code 14 = .ok (.iconst 2, 1) := by decide +kernel
theorem d_C_wantFor_15 : decode prog_1_method_32_code 15 = .ok (.ireturn, 1) := by decide +kernel
theorem d_C_reaches_0 : decode prog_1_method_33_code 0 = .ok (.iconst 0, 1) := by decide +kernel
theorem d_C_reaches_1 : decode prog_1_method_33_code 1 = .ok (.istore 5, 2) := by decide +kernel
theorem d_C_reaches_3 : decode prog_1_method_33_code 3 = .ok (.iload 5, 2) := by decide +kernel
theorem d_C_reaches_5 : decode prog_1_method_33_code 5 = .ok (.aload_n 0, 1) := by decide +kernel
theorem d_C_reaches_6 : decode prog_1_method_33_code 6 = .ok (.getfield 19, 3) := by decide +kernel
theorem d_C_reaches_9 : decode prog_1_method_33_code 9 = .ok (.if_icmp .ge 54, 3) := by decide +kernel
theorem d_C_reaches_12 : decode prog_1_method_33_code 12 = .ok (.iload_n 2, 1) := by decide +kernel
theorem d_C_reaches_13 : decode prog_1_method_33_code 13 = .ok (.aload_n 0, 1) := by decide +kernel
theorem d_C_reaches_14 : decode prog_1_method_33_code 14 = .ok (.getfield 42, 3) := by decide +kernel
theorem d_C_reaches_17 : decode prog_1_method_33_code 17 = .ok (.iload_n 1, 1) := by decide +kernel
theorem d_C_reaches_18 : decode prog_1_method_33_code 18 = .ok (.aaload, 1) := by decide +kernel
theorem d_C_reaches_19 : decode prog_1_method_33_code 19 = .ok (.iload 5, 2) := by decide +kernel
theorem d_C_reaches_21 : decode prog_1_method_33_code 21 = .ok (.iaload, 1) := by decide +kernel
theorem d_C_reaches_22 : decode prog_1_method_33_code 22 = .ok (.invokestatic 172, 3) := by decide +kernel
theorem d_C_reaches_25 : decode prog_1_method_33_code 25 = .ok (.istore 6, 2) := by decide +kernel
theorem d_C_reaches_27 : decode prog_1_method_33_code 27 = .ok (.iload 4, 2) := by decide +kernel
theorem d_C_reaches_29 : decode prog_1_method_33_code 29 = .ok (.aload_n 0, 1) := by decide +kernel
theorem d_C_reaches_30 : decode prog_1_method_33_code 30 = .ok (.getfield 42, 3) := by decide +kernel
theorem d_C_reaches_33 : decode prog_1_method_33_code 33 = .ok (.iload_n 3, 1) := by decide +kernel
theorem d_C_reaches_34 : decode prog_1_method_33_code 34 = .ok (.aaload, 1) := by decide +kernel
theorem d_C_reaches_35 : decode prog_1_method_33_code 35 = .ok (.iload 5, 2) := by decide +kernel
theorem d_C_reaches_37 : decode prog_1_method_33_code 37 = .ok (.iaload, 1) := by decide +kernel
theorem d_C_reaches_38 : decode prog_1_method_33_code 38 = .ok (.invokestatic 172, 3) := by decide +kernel
theorem d_C_reaches_41 : decode prog_1_method_33_code 41 = .ok (.istore 7, 2) := by decide +kernel
theorem d_C_reaches_43 : decode prog_1_method_33_code 43 = .ok (.iload 7, 2) := by decide +kernel
theorem d_C_reaches_45 : decode prog_1_method_33_code 45 = .ok (.ifCond .eq 12, 3) := by decide +kernel
theorem d_C_reaches_48 : decode prog_1_method_33_code 48 = .ok (.iload 7, 2) := by decide +kernel
theorem d_C_reaches_50 : decode prog_1_method_33_code 50 = .ok (.iload 6, 2) := by decide +kernel
theorem d_C_reaches_52 : decode prog_1_method_33_code 52 = .ok (.if_icmp .eq 5, 3) := by decide +kernel
theorem d_C_reaches_55 : decode prog_1_method_33_code 55 = .ok (.iconst 0, 1) := by decide +kernel
theorem d_C_reaches_56 : decode prog_1_method_33_code 56 = .ok (.ireturn, 1) := by decide +kernel
theorem d_C_reaches_57 : decode prog_1_method_33_code 57 = .ok (.iinc 5 1, 3) := by decide +kernel
theorem d_C_reaches_60 : decode prog_1_method_33_code 60 = .ok (.goto (-57), 3) := by decide +kernel
theorem d_C_reaches_63 : decode prog_1_method_33_code 63 = .ok (.iconst 1, 1) := by decide +kernel
theorem d_C_reaches_64 : decode prog_1_method_33_code 64 = .ok (.ireturn, 1) := by decide +kernel
end
section
theorem d_M_init_0 : decode prog_4_method_1_code 0 = .ok (.aload_n 0, 1) := by decide +kernel
theorem d_M_init_1 : decode prog_4_method_1_code 1 = .ok (.invokespecial 1, 3) := by decide +kernel
theorem d_M_init_4 : decode prog_4_method_1_code 4 = .ok (.aload_n 0, 1) := by decide +kernel
theorem d_M_init_5 : decode prog_4_method_1_code 5 = .ok (.bipush 18, 2) := by decide +kernel
theorem d_M_init_7 : decode prog_4_method_1_code 7 = .ok (.newarray .int, 2) := by decide +kernel
theorem d_M_init_9 : decode prog_4_method_1_code 9 = .ok (.putfield 7, 3) := by decide +kernel
theorem d_M_init_12 : decode prog_4_method_1_code 12 = .ok (.aload_n 0, 1) := by decide +kernel
theorem d_M_init_13 : decode prog_4_method_1_code 13 = .ok (.bipush 24, 2) := by decide +kernel
theorem d_M_init_15 : decode prog_4_method_1_code 15 = .ok (.newarray .long, 2) := by decide +kernel
theorem d_M_init_17 : decode prog_4_method_1_code 17 = .ok (.putfield 13, 3) := by decide +kernel
theorem d_M_init_20 : decode prog_4_method_1_code 20 = .ok (.aload_n 0, 1) := by decide +kernel
theorem d_M_init_21 : decode prog_4_method_1_code 21 = .ok (.bipush 24, 2) := by decide +kernel
theorem d_M_init_23 : decode prog_4_method_1_code 23 = .ok (.newarray .long, 2) := by decide +kernel
theorem d_M_init_25 : decode prog_4_method_1_code 25 = .ok (.putfield 17, 3) := by decide +kernel
theorem d_M_init_28 : decode prog_4_method_1_code 28 = .ok (.aload_n 0, 1) := by decide +kernel
theorem d_M_init_29 : decode prog_4_method_1_code 29 = .ok (.bipush 6, 2) := by decide +kernel
theorem d_M_init_31 : decode prog_4_method_1_code 31 = .ok (.newarray .long, 2) := by decide +kernel
theorem d_M_init_33 : decode prog_4_method_1_code 33 = .ok (.putfield 20, 3) := by decide +kernel
theorem d_M_init_36 : decode prog_4_method_1_code 36 = .ok (.aload_n 0, 1) := by decide +kernel
theorem d_M_init_37 : decode prog_4_method_1_code 37 = .ok (.bipush 6, 2) := by decide +kernel
theorem d_M_init_39 : decode prog_4_method_1_code 39 = .ok (.newarray .long, 2) := by decide +kernel
theorem d_M_init_41 : decode prog_4_method_1_code 41 = .ok (.putfield 23, 3) := by decide +kernel
theorem d_M_init_44 : decode prog_4_method_1_code 44 = .ok (.return_, 1) := by decide +kernel
theorem d_M_thrown_0 : decode prog_4_method_2_code 0 = .ok (.aload_n 0, 1) := by decide +kernel
theorem d_M_thrown_1 : decode prog_4_method_2_code 1 = .ok (.getfield 26, 3) := by decide +kernel
theorem d_M_thrown_4 : decode prog_4_method_2_code 4 = .ok (.ireturn, 1) := by decide +kernel
theorem d_M_in_0 : decode prog_4_method_4_code 0 = .ok (.lload_n 0, 1) := by decide +kernel
theorem d_M_in_1 : decode prog_4_method_4_code 1 = .ok (.lload_n 2, 1) := by decide +kernel
theorem d_M_in_2 : decode prog_4_method_4_code 2 = .ok (.lcmp, 1) := by decide +kernel
theorem d_M_in_3 : decode prog_4_method_4_code 3 = .ok (.ifCond .lt 14, 3) := by decide +kernel
theorem d_M_in_6 : decode prog_4_method_4_code 6 = .ok (.lload_n 0, 1) := by decide +kernel
theorem d_M_in_7 : decode prog_4_method_4_code 7 = .ok (.lload 4, 2) := by decide +kernel
theorem d_M_in_9 : decode prog_4_method_4_code 9 = .ok (.lcmp, 1) := by decide +kernel
theorem d_M_in_10 : decode prog_4_method_4_code 10 = .ok (.ifCond .gt 7, 3) := by decide +kernel
theorem d_M_in_13 : decode prog_4_method_4_code 13 = .ok (.iconst 1, 1) := by decide +kernel
theorem d_M_in_14 : decode prog_4_method_4_code 14 = .ok (.goto 4, 3) := by decide +kernel
theorem d_M_in_17 : decode prog_4_method_4_code 17 = .ok (.iconst 0, 1) := by decide +kernel
theorem d_M_in_18 : decode prog_4_method_4_code 18 = .ok (.ireturn, 1) := by decide +kernel
theorem d_M_lowest_0 : decode prog_4_method_5_code 0 = .ok (.lload_n 1, 1) := by decide +kernel
theorem d_M_lowest_1 : decode prog_4_method_5_code 1 = .ok (.lconst 0, 1) := by decide +kernel
theorem d_M_lowest_2 : decode prog_4_method_5_code 2 = .ok (.lcmp, 1) := by decide +kernel
theorem d_M_lowest_3 : decode prog_4_method_5_code 3 = .ok (.ifCond .ge 8, 3) := by decide +kernel
theorem d_M_lowest_6 : decode prog_4_method_5_code 6 = .ok (.lload_n 1, 1) := by decide +kernel
theorem d_M_lowest_7 : decode prog_4_method_5_code 7 = .ok (.lneg, 1) := by decide +kernel
theorem d_M_lowest_8 : decode prog_4_method_5_code 8 = .ok (.goto 4, 3) := by decide +kernel
theorem d_M_lowest_11 : decode prog_4_method_5_code 11 = .ok (.lload_n 1, 1) := by decide +kernel
theorem d_M_lowest_12 : decode prog_4_method_5_code 12 = .ok (.lstore 5, 2) := by decide +kernel
theorem d_M_lowest_14 : decode prog_4_method_5_code 14 = .ok (.lload_n 3, 1) := by decide +kernel
theorem d_M_lowest_15 : decode prog_4_method_5_code 15 = .ok (.lconst 0, 1) := by decide +kernel
theorem d_M_lowest_16 : decode prog_4_method_5_code 16 = .ok (.lcmp, 1) := by decide +kernel
theorem d_M_lowest_17 : decode prog_4_method_5_code 17 = .ok (.ifCond .ge 8, 3) := by decide +kernel
theorem d_M_lowest_20 : decode prog_4_method_5_code 20 = .ok (.lload_n 3, 1) := by decide +kernel
theorem d_M_lowest_21 : decode prog_4_method_5_code 21 = .ok (.lneg, 1) := by decide +kernel
theorem d_M_lowest_22 : decode prog_4_method_5_code 22 = .ok (.goto 4, 3) := by decide +kernel
theorem d_M_lowest_25 : decode prog_4_method_5_code 25 = .ok (.lload_n 3, 1) := by decide +kernel
theorem d_M_lowest_26 : decode prog_4_method_5_code 26 = .ok (.lstore 7, 2) := by decide +kernel
theorem d_M_lowest_28 : decode prog_4_method_5_code 28 = .ok (.lload 7, 2) := by decide +kernel
theorem d_M_lowest_30 : decode prog_4_method_5_code 30 = .ok (.lconst 0, 1) := by decide +kernel
theorem d_M_lowest_31 : decode prog_4_method_5_code 31 = .ok (.lcmp, 1) := by decide +kernel
theorem d_M_lowest_32 : decode prog_4_method_5_code 32 = .ok (.ifCond .eq 21, 3) := by decide +kernel
theorem d_M_lowest_35 : decode prog_4_method_5_code 35 = .ok (.lload 5, 2) := by decide +kernel
theorem d_M_lowest_37 : decode prog_4_method_5_code 37 = .ok (.lload 7, 2) := by decide +kernel
theorem d_M_lowest_39 : decode prog_4_method_5_code 39 = .ok (.lrem, 1) := by decide +kernel
theorem d_M_lowest_40 : decode prog_4_method_5_code 40 = .ok (.lstore 9, 2) := by decide +kernel
theorem d_M_lowest_42 : decode prog_4_method_5_code 42 = .ok (.lload 7, 2) := by decide +kernel
theorem d_M_lowest_44 : decode prog_4_method_5_code 44 = .ok (.lstore 5, 2) := by decide +kernel
theorem d_M_lowest_46 : decode prog_4_method_5_code 46 = .ok (.lload 9, 2) := by decide +kernel
theorem d_M_lowest_48 : decode prog_4_method_5_code 48 = .ok (.lstore 7, 2) := by decide +kernel
theorem d_M_lowest_50 : decode prog_4_method_5_code 50 = .ok (.goto (-22), 3) := by decide +kernel
theorem d_M_lowest_53 : decode prog_4_method_5_code 53 = .ok (.aload_n 0, 1) := by decide +kernel
theorem d_M_lowest_54 : decode prog_4_method_5_code 54 = .ok (.lload_n 3, 1) := by decide +kernel
theorem d_M_lowest_55 : decode prog_4_method_5_code 55 = .ok (.lconst 0, 1) := by decide +kernel
theorem d_M_lowest_56 : decode prog_4_method_5_code 56 = .ok (.lcmp, 1) := by decide +kernel
theorem d_M_lowest_57 : decode prog_4_method_5_code 57 = .ok (.ifCond .ge 11, 3) := by decide +kernel
theorem d_M_lowest_60 : decode prog_4_method_5_code 60 = .ok (.lload_n 1, 1) := by decide +kernel
theorem d_M_lowest_61 : decode prog_4_method_5_code 61 = .ok (.lload 5, 2) := by decide +kernel
theorem d_M_lowest_63 : decode prog_4_method_5_code 63 = .ok (.ldiv, 1) := by decide +kernel
theorem d_M_lowest_64 : decode prog_4_method_5_code 64 = .ok (.lneg, 1) := by decide +kernel
theorem d_M_lowest_65 : decode prog_4_method_5_code 65 = .ok (.goto 7, 3) := by decide +kernel
theorem d_M_lowest_68 : decode prog_4_method_5_code 68 = .ok (.lload_n 1, 1) := by decide +kernel
theorem d_M_lowest_69 : decode prog_4_method_5_code 69 = .ok (.lload 5, 2) := by decide +kernel
theorem d_M_lowest_71 : decode prog_4_method_5_code 71 = .ok (.ldiv, 1) := by decide +kernel
theorem d_M_lowest_72 : decode prog_4_method_5_code 72 = .ok (.putfield 30, 3) := by decide +kernel
theorem d_M_lowest_75 : decode prog_4_method_5_code 75 = .ok (.aload_n 0, 1) := by decide +kernel
theorem d_M_lowest_76 : decode prog_4_method_5_code 76 = .ok (.lload_n 3, 1) := by decide +kernel
theorem d_M_lowest_77 : decode prog_4_method_5_code 77 = .ok (.lconst 0, 1) := by decide +kernel
theorem d_M_lowest_78 : decode prog_4_method_5_code 78 = .ok (.lcmp, 1) := by decide +kernel
theorem d_M_lowest_79 : decode prog_4_method_5_code 79 = .ok (.ifCond .ge 11, 3) := by decide +kernel
theorem d_M_lowest_82 : decode prog_4_method_5_code 82 = .ok (.lload_n 3, 1) := by decide +kernel
theorem d_M_lowest_83 : decode prog_4_method_5_code 83 = .ok (.lload 5, 2) := by decide +kernel
theorem d_M_lowest_85 : decode prog_4_method_5_code 85 = .ok (.ldiv, 1) := by decide +kernel
theorem d_M_lowest_86 : decode prog_4_method_5_code 86 = .ok (.lneg, 1) := by decide +kernel
theorem d_M_lowest_87 : decode prog_4_method_5_code 87 = .ok (.goto 7, 3) := by decide +kernel
theorem d_M_lowest_90 : decode prog_4_method_5_code 90 = .ok (.lload_n 3, 1) := by decide +kernel
theorem d_M_lowest_91 : decode prog_4_method_5_code 91 = .ok (.lload 5, 2) := by decide +kernel
theorem d_M_lowest_93 : decode prog_4_method_5_code 93 = .ok (.ldiv, 1) := by decide +kernel
theorem d_M_lowest_94 : decode prog_4_method_5_code 94 = .ok (.putfield 34, 3) := by decide +kernel
theorem d_M_lowest_97 : decode prog_4_method_5_code 97 = .ok (.return_, 1) := by decide +kernel
theorem d_M_line_0 : decode prog_4_method_6_code 0 = .ok (.iload_n 1, 1) := by decide +kernel
theorem d_M_line_1 : decode prog_4_method_6_code 1 = .ok (.i2l, 1) := by decide +kernel
theorem d_M_line_2 : decode prog_4_method_6_code 2 = .ok (.ldc2_w 37, 3) := by decide +kernel
theorem d_M_line_5 : decode prog_4_method_6_code 5 = .ok (.ldc2_w 39, 3) := by decide +kernel
theorem d_M_line_8 : decode prog_4_method_6_code 8 = .ok (.invokestatic 41, 3) := by decide +kernel
theorem d_M_line_11 : decode prog_4_method_6_code 11 = .ok (.ifCond .eq 43, 3) := by decide +kernel
theorem d_M_line_14 : decode prog_4_method_6_code 14 = .ok (.iload_n 2, 1) := by decide +kernel
theorem d_M_line_15 : decode prog_4_method_6_code 15 = .ok (.i2l, 1) := by decide +kernel
theorem d_M_line_16 : decode prog_4_method_6_code 16 = .ok (.ldc2_w 37, 3) := by decide +kernel
theorem d_M_line_19 : decode prog_4_method_6_code 19 = .ok (.ldc2_w 39, 3) := by decide +kernel
theorem d_M_line_22 : decode prog_4_method_6_code 22 = .ok (.invokestatic 41, 3) := by decide +kernel
theorem d_M_line_25 : decode prog_4_method_6_code 25 = .ok (.ifCond .eq 29, 3) := by decide +kernel
theorem d_M_line_28 : decode prog_4_method_6_code 28 = .ok (.iload_n 3, 1) := by decide +kernel
theorem d_M_line_29 : decode prog_4_method_6_code 29 = .ok (.i2l, 1) := by decide +kernel
theorem d_M_line_30 : decode prog_4_method_6_code 30 = .ok (.ldc2_w 37, 3) := by decide +kernel
theorem d_M_line_33 : decode prog_4_method_6_code 33 = .ok (.ldc2_w 39, 3) := by decide +kernel
theorem d_M_line_36 : decode prog_4_method_6_code 36 = .ok (.invokestatic 41, 3) := by decide +kernel
theorem d_M_line_39 : decode prog_4_method_6_code 39 = .ok (.ifCond .eq 15, 3) := by decide +kernel
theorem d_M_line_42 : decode prog_4_method_6_code 42 = .ok (.iload_n 1, 1) := by decide +kernel
theorem d_M_line_43 : decode prog_4_method_6_code 43 = .ok (.ifCond .ne 7, 3) := by decide +kernel
theorem d_M_line_46 : decode prog_4_method_6_code 46 = .ok (.iload_n 2, 1) := by decide +kernel
theorem d_M_line_47 : decode prog_4_method_6_code 47 = .ok (.ifCond .eq 7, 3) := by decide +kernel
theorem d_M_line_50 : decode prog_4_method_6_code 50 = .ok (.iconst 1, 1) := by decide +kernel
theorem d_M_line_51 : decode prog_4_method_6_code 51 = .ok (.goto 4, 3) := by decide +kernel
theorem d_M_line_54 : decode prog_4_method_6_code 54 = .ok (.iconst 0, 1) := by decide +kernel
theorem d_M_line_55 : decode prog_4_method_6_code 55 = .ok (.istore 4, 2) := by decide +kernel
theorem d_M_line_57 : decode prog_4_method_6_code 57 = .ok (.aload_n 0, 1) := by decide +kernel
theorem d_M_line_58 : decode prog_4_method_6_code 58 = .ok (.iload 4, 2) := by decide +kernel
theorem d_M_line_60 : decode prog_4_method_6_code 60 = .ok (.ifCond .ne 7, 3) := by decide +kernel
theorem d_M_line_63 : decode prog_4_method_6_code 63 = .ok (.iconst 1, 1) := by decide +kernel
theorem d_M_line_64 : decode prog_4_method_6_code 64 = .ok (.goto 17, 3) := by decide +kernel
theorem d_M_line_67 : decode prog_4_method_6_code 67 = .ok (.aload_n 0, 1) := by decide +kernel
theorem d_M_line_68 : decode prog_4_method_6_code 68 = .ok (.getfield 45, 3) := by decide +kernel
theorem d_M_line_71 : decode prog_4_method_6_code 71 = .ok (.bipush 6, 2) := by decide +kernel
theorem d_M_line_73 : decode prog_4_method_6_code 73 = .ok (.if_icmp .ne 7, 3) := by decide +kernel
theorem d_M_line_76 : decode prog_4_method_6_code 76 = .ok (.iconst 2, 1) := by decide +kernel
theorem d_M_line_77 : decode prog_4_method_6_code 77 = .ok (.goto 4, 3) := by decide +kernel
theorem d_M_line_80 : decode prog_4_method_6_code 80 = .ok (.iconst 0, 1) := by decide +kernel
theorem d_M_line_81 : decode prog_4_method_6_code 81 = .ok (.putfield 26, 3) := by decide +kernel
theorem d_M_line_84 : decode prog_4_method_6_code 84 = .ok (.aload_n 0, 1) := by decide +kernel
theorem d_M_line_85 : decode prog_4_method_6_code 85 = .ok (.getfield 26, 3) := by decide +kernel
theorem d_M_line_88 : decode prog_4_method_6_code 88 = .ok (.ifCond .le 5, 3) := by decide +kernel
theorem d_M_line_91 : decode prog_4_method_6_code 91 = .ok (.iconst 0, 1) := by decide +kernel
theorem d_M_line_92 : decode prog_4_method_6_code 92 = .ok (.ireturn, 1) := by decide +kernel
theorem d_M_line_93 : decode prog_4_method_6_code 93 = .ok (.aload_n 0, 1) := by decide +kernel
theorem d_M_line_94 : decode prog_4_method_6_code 94 = .ok (.getfield 7, 3) := by decide +kernel
theorem d_M_line_97 : decode prog_4_method_6_code 97 = .ok (.iconst 3, 1) := by decide +kernel
theorem d_M_line_98 : decode prog_4_method_6_code 98 = .ok (.aload_n 0, 1) := by decide +kernel
theorem d_M_line_99 : decode prog_4_method_6_code 99 = .ok (.getfield 45, 3) := by decide +kernel
theorem d_M_line_102 : decode prog_4_method_6_code 102 = .ok (.imul, 1) := by decide +kernel
theorem d_M_line_103 : decode prog_4_method_6_code 103 = .ok (.iload_n 1, 1) := by decide +kernel
theorem d_M_line_104 : decode prog_4_method_6_code 104 = .ok (.iastore, 1) := by decide +kernel
theorem d_M_line_105 : decode prog_4_method_6_code 105 = .ok (.aload_n 0, 1) := by decide +kernel
theorem d_M_line_106 : decode prog_4_method_6_code 106 = .ok (.getfield 7, 3) := by decide +kernel
theorem d_M_line_109 : decode prog_4_method_6_code 109 = .ok (.iconst 3, 1) := by decide +kernel
theorem d_M_line_110 : decode prog_4_method_6_code 110 = .ok (.aload_n 0, 1) := by decide +kernel
theorem d_M_line_111 : decode prog_4_method_6_code 111 = .ok (.getfield 45, 3) := by decide +kernel
theorem d_M_line_114 : decode prog_4_method_6_code 114 = .ok (.imul, 1) := by decide +kernel
theorem d_M_line_115 : decode prog_4_method_6_code 115 = .ok (.iconst 1, 1) := by decide +kernel
theorem d_M_line_116 : decode prog_4_method_6_code 116 = .ok (.iadd, 1) := by decide +kernel
theorem d_M_line_117 : decode prog_4_method_6_code 117 = .ok (.iload_n 2, 1) := by decide +kernel
theorem d_M_line_118 : decode prog_4_method_6_code 118 = .ok (.iastore, 1) := by decide +kernel
theorem d_M_line_119 : decode prog_4_method_6_code 119 = .ok (.aload_n 0, 1) := by decide +kernel
theorem d_M_line_120 : decode prog_4_method_6_code 120 = .ok (.getfield 7, 3) := by decide +kernel
theorem d_M_line_123 : decode prog_4_method_6_code 123 = .ok (.iconst 3, 1) := by decide +kernel
theorem d_M_line_124 : decode prog_4_method_6_code 124 = .ok (.aload_n 0, 1) := by decide +kernel
theorem d_M_line_125 : decode prog_4_method_6_code 125 = .ok (.getfield 45, 3) := by decide +kernel
theorem d_M_line_128 : decode prog_4_method_6_code 128 = .ok (.imul, 1) := by decide +kernel
theorem d_M_line_129 : decode prog_4_method_6_code 129 = .ok (.iconst 2, 1) := by decide +kernel
theorem d_M_line_130 : decode prog_4_method_6_code 130 = .ok (.iadd, 1) := by decide +kernel
theorem d_M_line_131 : decode prog_4_method_6_code 131 = .ok (.iload_n 3, 1) := by decide +kernel
theorem d_M_line_132 : decode prog_4_method_6_code 132 = .ok (.iastore, 1) := by decide +kernel
theorem d_M_line_133 : decode prog_4_method_6_code 133 = .ok (.aload_n 0, 1) := by decide +kernel
theorem d_M_line_134 : decode prog_4_method_6_code 134 = .ok (.dup, 1) := by decide +kernel
theorem d_M_line_135 : decode prog_4_method_6_code 135 = .ok (.getfield 45, 3) := by decide +kernel
theorem d_M_line_138 : decode prog_4_method_6_code 138 = .ok (.iconst 1, 1) := by decide +kernel
theorem d_M_line_139 : decode prog_4_method_6_code 139 = .ok (.iadd, 1) := by decide +kernel
theorem d_M_line_140 : decode prog_4_method_6_code 140 = .ok (.putfield 45, 3) := by decide +kernel
theorem d_M_line_143 : decode prog_4_method_6_code 143 = .ok (.aload_n 0, 1) := by decide +kernel
theorem d_M_line_144 : decode prog_4_method_6_code 144 = .ok (.invokevirtual 48, 3) := by decide +kernel
theorem d_M_line_147 : decode prog_4_method_6_code 147 = .ok (.aload_n 0, 1) := by decide +kernel
theorem d_M_line_148 : decode prog_4_method_6_code 148 = .ok (.getfield 45, 3) := by decide +kernel
theorem d_M_line_151 : decode prog_4_method_6_code 151 = .ok (.iconst 1, 1) := by decide +kernel
theorem d_M_line_152 : decode prog_4_method_6_code 152 = .ok (.isub, 1) := by decide +kernel
theorem d_M_line_153 : decode prog_4_method_6_code 153 = .ok (.ireturn, 1) := by decide +kernel
theorem d_M_drop_0 : decode prog_4_method_7_code 0 = .ok (.aload_n 0, 1) := by decide +kernel
theorem d_M_drop_1 : decode prog_4_method_7_code 1 = .ok (.iload_n 1, 1) := by decide +kernel
theorem d_M_drop_2 : decode prog_4_method_7_code 2 = .ok (.i2l, 1) := by decide +kernel
theorem d_M_drop_3 : decode prog_4_method_7_code 3 = .ok (.lconst 0, 1) := by decide +kernel
theorem d_M_drop_4 : decode prog_4_method_7_code 4 = .ok (.aload_n 0, 1) := by decide +kernel
theorem d_M_drop_5 : decode prog_4_method_7_code 5 = .ok (.getfield 45, 3) := by decide +kernel
theorem d_M_drop_8 : decode prog_4_method_7_code 8 = .ok (.iconst 1, 1) := by decide +kernel
theorem d_M_drop_9 : decode prog_4_method_7_code 9 = .ok (.isub, 1) := by decide +kernel
theorem d_M_drop_10 : decode prog_4_method_7_code 10 = .ok (.i2l, 1) := by decide +kernel
theorem d_M_drop_11 : decode prog_4_method_7_code 11 = .ok (.invokestatic 41, 3) := by decide +kernel
theorem d_M_drop_14 : decode prog_4_method_7_code 14 = .ok (.ifCond .eq 7, 3) := by decide +kernel
theorem d_M_drop_17 : decode prog_4_method_7_code 17 = .ok (.iconst 0, 1) := by decide +kernel
theorem d_M_drop_18 : decode prog_4_method_7_code 18 = .ok (.goto 4, 3) := by decide +kernel
theorem d_M_drop_21 : decode prog_4_method_7_code 21 = .ok (.iconst 1, 1) := by decide +kernel
theorem d_M_drop_22 : decode prog_4_method_7_code 22 = .ok (.putfield 26, 3) := by decide +kernel
theorem d_M_drop_25 : decode prog_4_method_7_code 25 = .ok (.aload_n 0, 1) := by decide +kernel
theorem d_M_drop_26 : decode prog_4_method_7_code 26 = .ok (.getfield 26, 3) := by decide +kernel
theorem d_M_drop_29 : decode prog_4_method_7_code 29 = .ok (.ifCond .le 4, 3) := by decide +kernel
theorem d_M_drop_32 : decode prog_4_method_7_code 32 = .ok (.return_, 1) := by decide +kernel
theorem d_M_drop_33 : decode prog_4_method_7_code 33 = .ok (.aload_n 0, 1) := by decide +kernel
theorem d_M_drop_34 : decode prog_4_method_7_code 34 = .ok (.dup, 1) := by decide +kernel
theorem d_M_drop_35 : decode prog_4_method_7_code 35 = .ok (.getfield 45, 3) := by decide +kernel
theorem d_M_drop_38 : decode prog_4_method_7_code 38 = .ok (.iconst 1, 1) := by decide +kernel
theorem d_M_drop_39 : decode prog_4_method_7_code 39 = .ok (.isub, 1) := by decide +kernel
theorem d_M_drop_40 : decode prog_4_method_7_code 40 = .ok (.putfield 45, 3) := by decide +kernel
theorem d_M_drop_43 : decode prog_4_method_7_code 43 = .ok (.iconst 3, 1) := by decide +kernel
theorem d_M_drop_44 : decode prog_4_method_7_code 44 = .ok (.iload_n 1, 1) := by decide +kernel
theorem d_M_drop_45 : decode prog_4_method_7_code 45 = .ok (.imul, 1) := by decide +kernel
theorem d_M_drop_46 : decode prog_4_method_7_code 46 = .ok (.istore_n 2, 1) := by decide +kernel
theorem d_M_drop_47 : decode prog_4_method_7_code 47 = .ok (.iload_n 2, 1) := by decide +kernel
theorem d_M_drop_48 : decode prog_4_method_7_code 48 = .ok (.iconst 3, 1) := by decide +kernel
theorem d_M_drop_49 : decode prog_4_method_7_code 49 = .ok (.aload_n 0, 1) := by decide +kernel
theorem d_M_drop_50 : decode prog_4_method_7_code 50 = .ok (.getfield 45, 3) := by decide +kernel
theorem d_M_drop_53 : decode prog_4_method_7_code 53 = .ok (.imul, 1) := by decide +kernel
theorem d_M_drop_54 : decode prog_4_method_7_code 54 = .ok (.if_icmp .ge 23, 3) := by decide +kernel
theorem d_M_drop_57 : decode prog_4_method_7_code 57 = .ok (.aload_n 0, 1) := by decide +kernel
theorem d_M_drop_58 : decode prog_4_method_7_code 58 = .ok (.getfield 7, 3) := by decide +kernel
theorem d_M_drop_61 : decode prog_4_method_7_code 61 = .ok (.iload_n 2, 1) := by decide +kernel
theorem d_M_drop_62 : decode prog_4_method_7_code 62 = .ok (.aload_n 0, 1) := by decide +kernel
theorem d_M_drop_63 : decode prog_4_method_7_code 63 = .ok (.getfield 7, 3) := by decide +kernel
theorem d_M_drop_66 : decode prog_4_method_7_code 66 = .ok (.iload_n 2, 1) := by decide +kernel
theorem d_M_drop_67 : decode prog_4_method_7_code 67 = .ok (.iconst 3, 1) := by decide +kernel
theorem d_M_drop_68 : decode prog_4_method_7_code 68 = .ok (.iadd, 1) := by decide +kernel
theorem d_M_drop_69 : decode prog_4_method_7_code 69 = .ok (.iaload, 1) := by decide +kernel
theorem d_M_drop_70 : decode prog_4_method_7_code 70 = .ok (.iastore, 1) := by decide +kernel
theorem d_M_drop_71 : decode prog_4_method_7_code 71 = .ok (.iinc 2 1, 3) := by decide +kernel
theorem d_M_drop_74 : decode prog_4_method_7_code 74 = .ok (.goto (-27), 3) := by decide +kernel
theorem d_M_drop_77 : decode prog_4_method_7_code 77 = .ok (.aload_n 0, 1) := by decide +kernel
theorem d_M_drop_78 : decode prog_4_method_7_code 78 = .ok (.invokevirtual 48, 3) := by decide +kernel
theorem d_M_drop_81 : decode prog_4_method_7_code 81 = .ok (.return_, 1) := by decide +kernel
theorem d_M_lines_0 : decode prog_4_method_8_code 0 = .ok (.aload_n 0, 1) := by decide +kernel
theorem d_M_lines_1 : decode prog_4_method_8_code 1 = .ok (.iconst 0, 1) := by decide +kernel
theorem d_M_lines_2 : decode prog_4_method_8_code 2 = .ok (.putfield 26, 3) := by decide +kernel
theorem d_M_lines_5 : decode prog_4_method_8_code 5 = .ok (.aload_n 0, 1) := by decide +kernel
theorem d_M_lines_6 : decode prog_4_method_8_code 6 = .ok (.getfield 45, 3) := by decide +kernel
theorem d_M_lines_9 : decode prog_4_method_8_code 9 = .ok (.ireturn, 1) := by decide +kernel
theorem d_M_look_0 : decode prog_4_method_9_code 0 = .ok (.aload_n 0, 1) := by decide +kernel
theorem d_M_look_1 : decode prog_4_method_9_code 1 = .ok (.iconst 0, 1) := by decide +kernel
theorem d_M_look_2 : decode prog_4_method_9_code 2 = .ok (.putfield 51, 3) := by decide +kernel
theorem d_M_look_5 : decode prog_4_method_9_code 5 = .ok (.iconst 0, 1) := by decide +kernel
theorem d_M_look_6 : decode prog_4_method_9_code 6 = .ok (.istore_n 1, 1) := by decide +kernel
theorem d_M_look_7 : decode prog_4_method_9_code 7 = .ok (.iload_n 1, 1) := by decide +kernel
theorem d_M_look_8 : decode prog_4_method_9_code 8 = .ok (.aload_n 0, 1) := by decide +kernel
theorem d_M_look_9 : decode prog_4_method_9_code 9 = .ok (.getfield 45, 3) := by decide +kernel
theorem d_M_look_12 : decode prog_4_method_9_code 12 = .ok (.if_icmp .ge 168, 3) := by decide +kernel
theorem d_M_look_15 : decode prog_4_method_9_code 15 = .ok (.aload_n 0, 1) := by decide +kernel
theorem d_M_look_16 : decode prog_4_method_9_code 16 = .ok (.getfield 7, 3) := by decide +kernel
theorem d_M_look_19 : decode prog_4_method_9_code 19 = .ok (.iconst 3, 1) := by decide +kernel
theorem d_M_look_20 : decode prog_4_method_9_code 20 = .ok (.iload_n 1, 1) := by decide +kernel
theorem d_M_look_21 : decode prog_4_method_9_code 21 = .ok (.imul, 1) := by decide +kernel
theorem d_M_look_22 : decode prog_4_method_9_code 22 = .ok (.iconst 1, 1) := by decide +kernel
theorem d_M_look_23 : decode prog_4_method_9_code 23 = .ok (.iadd, 1) := by decide +kernel
theorem d_M_look_24 : decode prog_4_method_9_code 24 = .ok (.iaload, 1) := by decide +kernel
theorem d_M_look_25 : decode prog_4_method_9_code 25 = .ok (.ifCond .ne 32, 3) := by decide +kernel
theorem d_M_look_28 : decode prog_4_method_9_code 28 = .ok (.aload_n 0, 1) := by decide +kernel
theorem d_M_look_29 : decode prog_4_method_9_code 29 = .ok (.aload_n 0, 1) := by decide +kernel
theorem d_M_look_30 : decode prog_4_method_9_code 30 = .ok (.getfield 7, 3) := by decide +kernel
theorem d_M_look_33 : decode prog_4_method_9_code 33 = .ok (.iconst 3, 1) := by decide +kernel
theorem d_M_look_34 : decode prog_4_method_9_code 34 = .ok (.iload_n 1, 1) := by decide +kernel
theorem d_M_look_35 : decode prog_4_method_9_code 35 = .ok (.imul, 1) := by decide +kernel
theorem d_M_look_36 : decode prog_4_method_9_code 36 = .ok (.iconst 2, 1) := by decide +kernel
theorem d_M_look_37 : decode prog_4_method_9_code 37 = .ok (.iadd, 1) := by decide +kernel
theorem d_M_look_38 : decode prog_4_method_9_code 38 = .ok (.iaload, 1) := by decide +kernel
theorem d_M_look_39 : decode prog_4_method_9_code 39 = .ok (.ineg, 1) := by decide +kernel
theorem d_M_look_40 : decode prog_4_method_9_code 40 = .ok (.i2l, 1) := by decide +kernel
theorem d_M_look_41 : decode prog_4_method_9_code 41 = .ok (.aload_n 0, 1) := by decide +kernel
theorem d_M_look_42 : decode prog_4_method_9_code 42 = .ok (.getfield 7, 3) := by decide +kernel
theorem d_M_look_45 : decode prog_4_method_9_code 45 = .ok (.iconst 3, 1) := by decide +kernel
theorem d_M_look_46 : decode prog_4_method_9_code 46 = .ok (.iload_n 1, 1) := by decide +kernel
theorem d_M_look_47 : decode prog_4_method_9_code 47 = .ok (.imul, 1) := by decide +kernel
theorem d_M_look_48 : decode prog_4_method_9_code 48 = .ok (.iaload, 1) := by decide +kernel
theorem d_M_look_49 : decode prog_4_method_9_code 49 = .ok (.i2l, 1) := by decide +kernel
theorem d_M_look_50 : decode prog_4_method_9_code 50 = .ok (.invokevirtual 54, 3) := by decide +kernel
theorem d_M_look_53 : decode prog_4_method_9_code 53 = .ok (.aload_n 0, 1) := by decide +kernel
theorem d_M_look_54 : decode prog_4_method_9_code 54 = .ok (.invokevirtual 58, 3) := by decide +kernel
theorem d_M_look_57 : decode prog_4_method_9_code 57 = .ok (.iconst 0, 1) := by decide +kernel
theorem d_M_look_58 : decode prog_4_method_9_code 58 = .ok (.istore_n 2, 1) := by decide +kernel
theorem d_M_look_59 : decode prog_4_method_9_code 59 = .ok (.iload_n 2, 1) := by decide +kernel
theorem d_M_look_60 : decode prog_4_method_9_code 60 = .ok (.iload_n 1, 1) := by decide +kernel
theorem d_M_look_61 : decode prog_4_method_9_code 61 = .ok (.if_icmp .ge 113, 3) := by decide +kernel
theorem d_M_look_64 : decode prog_4_method_9_code 64 = .ok (.aload_n 0, 1) := by decide +kernel
theorem d_M_look_65 : decode prog_4_method_9_code 65 = .ok (.getfield 7, 3) := by decide +kernel
theorem d_M_look_68 : decode prog_4_method_9_code 68 = .ok (.iconst 3, 1) := by decide +kernel
theorem d_M_look_69 : decode prog_4_method_9_code 69 = .ok (.iload_n 1, 1) := by decide +kernel
theorem d_M_look_70 : decode prog_4_method_9_code 70 = .ok (.imul, 1) := by decide +kernel
theorem d_M_look_71 : decode prog_4_method_9_code 71 = .ok (.iaload, 1) := by decide +kernel
theorem d_M_look_72 : decode prog_4_method_9_code 72 = .ok (.aload_n 0, 1) := by decide +kernel
theorem d_M_look_73 : decode prog_4_method_9_code 73 = .ok (.getfield 7, 3) := by decide +kernel
theorem d_M_look_76 : decode prog_4_method_9_code 76 = .ok (.iconst 3, 1) := by decide +kernel
theorem d_M_look_77 : decode prog_4_method_9_code 77 = .ok (.iload_n 2, 1) := by decide +kernel
theorem d_M_look_78 : decode prog_4_method_9_code 78 = .ok (.imul, 1) := by decide +kernel
theorem d_M_look_79 : decode prog_4_method_9_code 79 = .ok (.iconst 1, 1) := by decide +kernel
theorem d_M_look_80 : decode prog_4_method_9_code 80 = .ok (.iadd, 1) := by decide +kernel
theorem d_M_look_81 : decode prog_4_method_9_code 81 = .ok (.iaload, 1) := by decide +kernel
theorem d_M_look_82 : decode prog_4_method_9_code 82 = .ok (.imul, 1) := by decide +kernel
theorem d_M_look_83 : decode prog_4_method_9_code 83 = .ok (.aload_n 0, 1) := by decide +kernel
theorem d_M_look_84 : decode prog_4_method_9_code 84 = .ok (.getfield 7, 3) := by decide +kernel
theorem d_M_look_87 : decode prog_4_method_9_code 87 = .ok (.iconst 3, 1) := by decide +kernel
theorem d_M_look_88 : decode prog_4_method_9_code 88 = .ok (.iload_n 2, 1) := by decide +kernel
theorem d_M_look_89 : decode prog_4_method_9_code 89 = .ok (.imul, 1) := by decide +kernel
theorem d_M_look_90 : decode prog_4_method_9_code 90 = .ok (.iaload, 1) := by decide +kernel
theorem d_M_look_91 : decode prog_4_method_9_code 91 = .ok (.aload_n 0, 1) := by decide +kernel
theorem d_M_look_92 : decode prog_4_method_9_code 92 = .ok (.getfield 7, 3) := by decide +kernel
theorem d_M_look_95 : decode prog_4_method_9_code 95 = .ok (.iconst 3, 1) := by decide +kernel
theorem d_M_look_96 : decode prog_4_method_9_code 96 = .ok (.iload_n 1, 1) := by decide +kernel
theorem d_M_look_97 : decode prog_4_method_9_code 97 = .ok (.imul, 1) := by decide +kernel
theorem d_M_look_98 : decode prog_4_method_9_code 98 = .ok (.iconst 1, 1) := by decide +kernel
theorem d_M_look_99 : decode prog_4_method_9_code 99 = .ok (.iadd, 1) := by decide +kernel
theorem d_M_look_100 : decode prog_4_method_9_code 100 = .ok (.iaload, 1) := by decide +kernel
theorem d_M_look_101 : decode prog_4_method_9_code 101 = .ok (.imul, 1) := by decide +kernel
theorem d_M_look_102 : decode prog_4_method_9_code 102 = .ok (.isub, 1) := by decide +kernel
theorem d_M_look_103 : decode prog_4_method_9_code 103 = .ok (.istore_n 3, 1) := by decide +kernel
theorem d_M_look_104 : decode prog_4_method_9_code 104 = .ok (.iload_n 3, 1) := by decide +kernel
theorem d_M_look_105 : decode prog_4_method_9_code 105 = .ok (.ifCond .ne 6, 3) := by decide +kernel
theorem d_M_look_108 : decode prog_4_method_9_code 108 = .ok (.goto 60, 3) := by decide +kernel
theorem d_M_look_111 : decode prog_4_method_9_code 111 = .ok (.aload_n 0, 1) := by decide +kernel
theorem d_M_look_112 : decode prog_4_method_9_code 112 = .ok (.aload_n 0, 1) := by decide +kernel
theorem d_M_look_113 : decode prog_4_method_9_code 113 = .ok (.getfield 7, 3) := by decide +kernel
theorem d_M_look_116 : decode prog_4_method_9_code 116 = .ok (.iconst 3, 1) := by decide +kernel
theorem d_M_look_117 : decode prog_4_method_9_code 117 = .ok (.iload_n 1, 1) := by decide +kernel
theorem d_M_look_118 : decode prog_4_method_9_code 118 = .ok (.imul, 1) := by decide +kernel
theorem d_M_look_119 : decode prog_4_method_9_code 119 = .ok (.iconst 1, 1) := by decide +kernel
theorem d_M_look_120 : decode prog_4_method_9_code 120 = .ok (.iadd, 1) := by decide +kernel
theorem d_M_look_121 : decode prog_4_method_9_code 121 = .ok (.iaload, 1) := by decide +kernel
theorem d_M_look_122 : decode prog_4_method_9_code 122 = .ok (.i2l, 1) := by decide +kernel
theorem d_M_look_123 : decode prog_4_method_9_code 123 = .ok (.aload_n 0, 1) := by decide +kernel
theorem d_M_look_124 : decode prog_4_method_9_code 124 = .ok (.getfield 7, 3) := by decide +kernel
theorem d_M_look_127 : decode prog_4_method_9_code 127 = .ok (.iconst 3, 1) := by decide +kernel
theorem d_M_look_128 : decode prog_4_method_9_code 128 = .ok (.iload_n 2, 1) := by decide +kernel
theorem d_M_look_129 : decode prog_4_method_9_code 129 = .ok (.imul, 1) := by decide +kernel
theorem d_M_look_130 : decode prog_4_method_9_code 130 = .ok (.iconst 2, 1) := by decide +kernel
theorem d_M_look_131 : decode prog_4_method_9_code 131 = .ok (.iadd, 1) := by decide +kernel
theorem d_M_look_132 : decode prog_4_method_9_code 132 = .ok (.iaload, 1) := by decide +kernel
theorem d_M_look_133 : decode prog_4_method_9_code 133 = .ok (.i2l, 1) := by decide +kernel
theorem d_M_look_134 : decode prog_4_method_9_code 134 = .ok (.lmul, 1) := by decide +kernel
theorem d_M_look_135 : decode prog_4_method_9_code 135 = .ok (.aload_n 0, 1) := by decide +kernel
theorem d_M_look_136 : decode prog_4_method_9_code 136 = .ok (.getfield 7, 3) := by decide +kernel
theorem d_M_look_139 : decode prog_4_method_9_code 139 = .ok (.iconst 3, 1) := by decide +kernel
theorem d_M_look_140 : decode prog_4_method_9_code 140 = .ok (.iload_n 2, 1) := by decide +kernel
theorem d_M_look_141 : decode prog_4_method_9_code 141 = .ok (.imul, 1) := by decide +kernel
theorem d_M_look_142 : decode prog_4_method_9_code 142 = .ok (.iconst 1, 1) := by decide +kernel
theorem d_M_look_143 : decode prog_4_method_9_code 143 = .ok (.iadd, 1) := by decide +kernel
theorem d_M_look_144 : decode prog_4_method_9_code 144 = .ok (.iaload, 1) := by decide +kernel
theorem d_M_look_145 : decode prog_4_method_9_code 145 = .ok (.i2l, 1) := by decide +kernel
theorem d_M_look_146 : decode prog_4_method_9_code 146 = .ok (.aload_n 0, 1) := by decide +kernel
theorem d_M_look_147 : decode prog_4_method_9_code 147 = .ok (.getfield 7, 3) := by decide +kernel
theorem d_M_look_150 : decode prog_4_method_9_code 150 = .ok (.iconst 3, 1) := by decide +kernel
theorem d_M_look_151 : decode prog_4_method_9_code 151 = .ok (.iload_n 1, 1) := by decide +kernel
theorem d_M_look_152 : decode prog_4_method_9_code 152 = .ok (.imul, 1) := by decide +kernel
theorem d_M_look_153 : decode prog_4_method_9_code 153 = .ok (.iconst 2, 1) := by decide +kernel
theorem d_M_look_154 : decode prog_4_method_9_code 154 = .ok (.iadd, 1) := by decide +kernel
theorem d_M_look_155 : decode prog_4_method_9_code 155 = .ok (.iaload, 1) := by decide +kernel
theorem d_M_look_156 : decode prog_4_method_9_code 156 = .ok (.i2l, 1) := by decide +kernel
theorem d_M_look_157 : decode prog_4_method_9_code 157 = .ok (.lmul, 1) := by decide +kernel
theorem d_M_look_158 : decode prog_4_method_9_code 158 = .ok (.lsub, 1) := by decide +kernel
theorem d_M_look_159 : decode prog_4_method_9_code 159 = .ok (.iload_n 3, 1) := by decide +kernel
theorem d_M_look_160 : decode prog_4_method_9_code 160 = .ok (.i2l, 1) := by decide +kernel
theorem d_M_look_161 : decode prog_4_method_9_code 161 = .ok (.invokevirtual 54, 3) := by decide +kernel
theorem d_M_look_164 : decode prog_4_method_9_code 164 = .ok (.aload_n 0, 1) := by decide +kernel
theorem d_M_look_165 : decode prog_4_method_9_code 165 = .ok (.invokevirtual 58, 3) := by decide +kernel
theorem d_M_look_168 : decode prog_4_method_9_code 168 = .ok (.iinc 2 1, 3) := by decide +kernel
theorem d_M_look_171 : decode prog_4_method_9_code 171 = .ok (.goto (-112), 3) := by decide +kernel
theorem d_M_look_174 : decode prog_4_method_9_code 174 = .ok (.iinc 1 1, 3) := by decide +kernel
theorem d_M_look_177 : decode prog_4_method_9_code 177 = .ok (.goto (-170), 3) := by decide +kernel
theorem d_M_look_180 : decode prog_4_method_9_code 180 = .ok (.return_, 1) := by decide +kernel
theorem d_M_keepCut_0 : decode prog_4_method_10_code 0 = .ok (.iconst 0, 1) := by decide +kernel
theorem d_M_keepCut_1 : decode prog_4_method_10_code 1 = .ok (.istore_n 1, 1) := by decide +kernel
theorem d_M_keepCut_2 : decode prog_4_method_10_code 2 = .ok (.iload_n 1, 1) := by decide +kernel
theorem d_M_keepCut_3 : decode prog_4_method_10_code 3 = .ok (.aload_n 0, 1) := by decide +kernel
theorem d_M_keepCut_4 : decode prog_4_method_10_code 4 = .ok (.getfield 51, 3) := by decide +kernel
theorem d_M_keepCut_7 : decode prog_4_method_10_code 7 = .ok (.if_icmp .ge 35, 3) := by decide +kernel
theorem d_M_keepCut_10 : decode prog_4_method_10_code 10 = .ok (.aload_n 0, 1) := by decide +kernel
theorem d_M_keepCut_11 : decode prog_4_method_10_code 11 = .ok (.getfield 13, 3) := by decide +kernel
theorem d_M_keepCut_14 : decode prog_4_method_10_code 14 = .ok (.iload_n 1, 1) := by decide +kernel
theorem d_M_keepCut_15 : decode prog_4_method_10_code 15 = .ok (.laload, 1) := by decide +kernel
theorem d_M_keepCut_16 : decode prog_4_method_10_code 16 = .ok (.aload_n 0, 1) := by decide +kernel
theorem d_M_keepCut_17 : decode prog_4_method_10_code 17 = .ok (.getfield 34, 3) := by decide +kernel
theorem d_M_keepCut_20 : decode prog_4_method_10_code 20 = .ok (.lmul, 1) := by decide +kernel
theorem d_M_keepCut_21 : decode prog_4_method_10_code 21 = .ok (.aload_n 0, 1) := by decide +kernel
theorem d_M_keepCut_22 : decode prog_4_method_10_code 22 = .ok (.getfield 30, 3) := by decide +kernel
theorem d_M_keepCut_25 : decode prog_4_method_10_code 25 = .ok (.aload_n 0, 1) := by decide +kernel
theorem d_M_keepCut_26 : decode prog_4_method_10_code 26 = .ok (.getfield 17, 3) := by decide +kernel
theorem d_M_keepCut_29 : decode prog_4_method_10_code 29 = .ok (.iload_n 1, 1) := by decide +kernel
theorem d_M_keepCut_30 : decode prog_4_method_10_code 30 = .ok (.laload, 1) := by decide +kernel
theorem d_M_keepCut_31 : decode prog_4_method_10_code 31 = .ok (.lmul, 1) := by decide +kernel
theorem d_M_keepCut_32 : decode prog_4_method_10_code 32 = .ok (.lcmp, 1) := by decide +kernel
theorem d_M_keepCut_33 : decode prog_4_method_10_code 33 = .ok (.ifCond .ge 9, 3) := by decide +kernel
theorem d_M_keepCut_36 : decode prog_4_method_10_code 36 = .ok (.iinc 1 1, 3) := by decide +kernel
theorem d_M_keepCut_39 : decode prog_4_method_10_code 39 = .ok (.goto (-37), 3) := by decide +kernel
theorem d_M_keepCut_42 : decode prog_4_method_10_code 42 = .ok (.iload_n 1, 1) := by decide +kernel
theorem d_M_keepCut_43 : decode prog_4_method_10_code 43 = .ok (.aload_n 0, 1) := by decide +kernel
theorem d_M_keepCut_44 : decode prog_4_method_10_code 44 = .ok (.getfield 51, 3) := by decide +kernel
theorem d_M_keepCut_47 : decode prog_4_method_10_code 47 = .ok (.if_icmp .ge 32, 3) := by decide +kernel
theorem d_M_keepCut_50 : decode prog_4_method_10_code 50 = .ok (.aload_n 0, 1) := by decide +kernel
theorem d_M_keepCut_51 : decode prog_4_method_10_code 51 = .ok (.getfield 13, 3) := by decide +kernel
theorem d_M_keepCut_54 : decode prog_4_method_10_code 54 = .ok (.iload_n 1, 1) := by decide +kernel
theorem d_M_keepCut_55 : decode prog_4_method_10_code 55 = .ok (.laload, 1) := by decide +kernel
theorem d_M_keepCut_56 : decode prog_4_method_10_code 56 = .ok (.aload_n 0, 1) := by decide +kernel
theorem d_M_keepCut_57 : decode prog_4_method_10_code 57 = .ok (.getfield 30, 3) := by decide +kernel
theorem d_M_keepCut_60 : decode prog_4_method_10_code 60 = .ok (.lcmp, 1) := by decide +kernel
theorem d_M_keepCut_61 : decode prog_4_method_10_code 61 = .ok (.ifCond .ne 18, 3) := by decide +kernel
theorem d_M_keepCut_64 : decode prog_4_method_10_code 64 = .ok (.aload_n 0, 1) := by decide +kernel
theorem d_M_keepCut_65 : decode prog_4_method_10_code 65 = .ok (.getfield 17, 3) := by decide +kernel
theorem d_M_keepCut_68 : decode prog_4_method_10_code 68 = .ok (.iload_n 1, 1) := by decide +kernel
theorem d_M_keepCut_69 : decode prog_4_method_10_code 69 = .ok (.laload, 1) := by decide +kernel
theorem d_M_keepCut_70 : decode prog_4_method_10_code 70 = .ok (.aload_n 0, 1) := by decide +kernel
theorem d_M_keepCut_71 : decode prog_4_method_10_code 71 = .ok (.getfield 34, 3) := by decide +kernel
theorem d_M_keepCut_74 : decode prog_4_method_10_code 74 = .ok (.lcmp, 1) := by decide +kernel
theorem d_M_keepCut_75 : decode prog_4_method_10_code 75 = .ok (.ifCond .ne 4, 3) := by decide +kernel
theorem d_M_keepCut_78 : decode prog_4_method_10_code 78 = .ok (.return_, 1) := by decide +kernel
theorem d_M_keepCut_79 : decode prog_4_method_10_code 79 = .ok (.aload_n 0, 1) := by decide +kernel
theorem d_M_keepCut_80 : decode prog_4_method_10_code 80 = .ok (.getfield 51, 3) := by decide +kernel
theorem d_M_keepCut_83 : decode prog_4_method_10_code 83 = .ok (.istore_n 2, 1) := by decide +kernel
theorem d_M_keepCut_84 : decode prog_4_method_10_code 84 = .ok (.iload_n 2, 1) := by decide +kernel
theorem d_M_keepCut_85 : decode prog_4_method_10_code 85 = .ok (.iload_n 1, 1) := by decide +kernel
theorem d_M_keepCut_86 : decode prog_4_method_10_code 86 = .ok (.if_icmp .le 37, 3) := by decide +kernel
theorem d_M_keepCut_89 : decode prog_4_method_10_code 89 = .ok (.aload_n 0, 1) := by decide +kernel
theorem d_M_keepCut_90 : decode prog_4_method_10_code 90 = .ok (.getfield 13, 3) := by decide +kernel
theorem d_M_keepCut_93 : decode prog_4_method_10_code 93 = .ok (.iload_n 2, 1) := by decide +kernel
theorem d_M_keepCut_94 : decode prog_4_method_10_code 94 = .ok (.aload_n 0, 1) := by decide +kernel
theorem d_M_keepCut_95 : decode prog_4_method_10_code 95 = .ok (.getfield 13, 3) := by decide +kernel
theorem d_M_keepCut_98 : decode prog_4_method_10_code 98 = .ok (.iload_n 2, 1) := by decide +kernel
theorem d_M_keepCut_99 : decode prog_4_method_10_code 99 = .ok (.iconst 1, 1) := by decide +kernel
theorem d_M_keepCut_100 : decode prog_4_method_10_code 100 = .ok (.isub, 1) := by decide +kernel
theorem d_M_keepCut_101 : decode prog_4_method_10_code 101 = .ok (.laload, 1) := by decide +kernel
theorem d_M_keepCut_102 : decode prog_4_method_10_code 102 = .ok (.lastore, 1) := by decide +kernel
theorem d_M_keepCut_103 : decode prog_4_method_10_code 103 = .ok (.aload_n 0, 1) := by decide +kernel
theorem d_M_keepCut_104 : decode prog_4_method_10_code 104 = .ok (.getfield 17, 3) := by decide +kernel
theorem d_M_keepCut_107 : decode prog_4_method_10_code 107 = .ok (.iload_n 2, 1) := by decide +kernel
theorem d_M_keepCut_108 : decode prog_4_method_10_code 108 = .ok (.aload_n 0, 1) := by decide +kernel
theorem d_M_keepCut_109 : decode prog_4_method_10_code 109 = .ok (.getfield 17, 3) := by decide +kernel
theorem d_M_keepCut_112 : decode prog_4_method_10_code 112 = .ok (.iload_n 2, 1) := by decide +kernel
theorem d_M_keepCut_113 : decode prog_4_method_10_code 113 = .ok (.iconst 1, 1) := by decide +kernel
theorem d_M_keepCut_114 : decode prog_4_method_10_code 114 = .ok (.isub, 1) := by decide +kernel
theorem d_M_keepCut_115 : decode prog_4_method_10_code 115 = .ok (.laload, 1) := by decide +kernel
theorem d_M_keepCut_116 : decode prog_4_method_10_code 116 = .ok (.lastore, 1) := by decide +kernel
theorem d_M_keepCut_117 : decode prog_4_method_10_code 117 = .ok (.iinc 2 (-1), 3) := by decide +kernel
theorem d_M_keepCut_120 : decode prog_4_method_10_code 120 = .ok (.goto (-36), 3) := by decide +kernel
theorem d_M_keepCut_123 : decode prog_4_method_10_code 123 = .ok (.aload_n 0, 1) := by decide +kernel
theorem d_M_keepCut_124 : decode prog_4_method_10_code 124 = .ok (.getfield 13, 3) := by decide +kernel
theorem d_M_keepCut_127 : decode prog_4_method_10_code 127 = .ok (.iload_n 1, 1) := by decide +kernel
theorem d_M_keepCut_128 : decode prog_4_method_10_code 128 = .ok (.aload_n 0, 1) := by decide +kernel
theorem d_M_keepCut_129 : decode prog_4_method_10_code 129 = .ok (.getfield 30, 3) := by decide +kernel
theorem d_M_keepCut_132 : decode prog_4_method_10_code 132 = .ok (.lastore, 1) := by decide +kernel
theorem d_M_keepCut_133 : decode prog_4_method_10_code 133 = .ok (.aload_n 0, 1) := by decide +kernel
theorem d_M_keepCut_134 : decode prog_4_method_10_code 134 = .ok (.getfield 17, 3) := by decide +kernel
theorem d_M_keepCut_137 : decode prog_4_method_10_code 137 = .ok (.iload_n 1, 1) := by decide +kernel
theorem d_M_keepCut_138 : decode prog_4_method_10_code 138 = .ok (.aload_n 0, 1) := by decide +kernel
theorem d_M_keepCut_139 : decode prog_4_method_10_code 139 = .ok (.getfield 34, 3) := by decide +kernel
theorem d_M_keepCut_142 : decode prog_4_method_10_code 142 = .ok (.lastore, 1) := by decide +kernel
theorem d_M_keepCut_143 : decode prog_4_method_10_code 143 = .ok (.aload_n 0, 1) := by decide +kernel
theorem d_M_keepCut_144 : decode prog_4_method_10_code 144 = .ok (.dup, 1) := by decide +kernel
theorem d_M_keepCut_145 : decode prog_4_method_10_code 145 = .ok (.getfield 51, 3) := by decide +kernel
theorem d_M_keepCut_148 : decode prog_4_method_10_code 148 = .ok (.iconst 1, 1) := by decide +kernel
theorem d_M_keepCut_149 : decode prog_4_method_10_code 149 = .ok (.iadd, 1) := by decide +kernel
theorem d_M_keepCut_150 : decode prog_4_method_10_code 150 = .ok (.putfield 51, 3) := by decide +kernel
theorem d_M_keepCut_153 : decode prog_4_method_10_code 153 = .ok (.return_, 1) := by decide +kernel
theorem d_M_cuts_0 : decode prog_4_method_11_code 0 = .ok (.aload_n 0, 1) := by decide +kernel
theorem d_M_cuts_1 : decode prog_4_method_11_code 1 = .ok (.iconst 0, 1) := by decide +kernel
theorem d_M_cuts_2 : decode prog_4_method_11_code 2 = .ok (.putfield 26, 3) := by decide +kernel
theorem d_M_cuts_5 : decode prog_4_method_11_code 5 = .ok (.aload_n 0, 1) := by decide +kernel
theorem d_M_cuts_6 : decode prog_4_method_11_code 6 = .ok (.getfield 51, 3) := by decide +kernel
theorem d_M_cuts_9 : decode prog_4_method_11_code 9 = .ok (.ireturn, 1) := by decide +kernel
theorem d_M_told_0 : decode prog_4_method_12_code 0 = .ok (.iload_n 1, 1) := by decide +kernel
theorem d_M_told_1 : decode prog_4_method_12_code 1 = .ok (.ifCond .ne 10, 3) := by decide +kernel
theorem d_M_told_4 : decode prog_4_method_12_code 4 = .ok (.aload_n 0, 1) := by decide +kernel
theorem d_M_told_5 : decode prog_4_method_12_code 5 = .ok (.getfield 30, 3) := by decide +kernel
theorem d_M_told_8 : decode prog_4_method_12_code 8 = .ok (.goto 7, 3) := by decide +kernel
theorem d_M_told_11 : decode prog_4_method_12_code 11 = .ok (.aload_n 0, 1) := by decide +kernel
theorem d_M_told_12 : decode prog_4_method_12_code 12 = .ok (.getfield 34, 3) := by decide +kernel
theorem d_M_told_15 : decode prog_4_method_12_code 15 = .ok (.lreturn, 1) := by decide +kernel
theorem d_M_cut_0 : decode prog_4_method_13_code 0 = .ok (.aload_n 0, 1) := by decide +kernel
theorem d_M_cut_1 : decode prog_4_method_13_code 1 = .ok (.iload_n 1, 1) := by decide +kernel
theorem d_M_cut_2 : decode prog_4_method_13_code 2 = .ok (.i2l, 1) := by decide +kernel
theorem d_M_cut_3 : decode prog_4_method_13_code 3 = .ok (.lconst 0, 1) := by decide +kernel
theorem d_M_cut_4 : decode prog_4_method_13_code 4 = .ok (.aload_n 0, 1) := by decide +kernel
theorem d_M_cut_5 : decode prog_4_method_13_code 5 = .ok (.getfield 51, 3) := by decide +kernel
theorem d_M_cut_8 : decode prog_4_method_13_code 8 = .ok (.iconst 1, 1) := by decide +kernel
theorem d_M_cut_9 : decode prog_4_method_13_code 9 = .ok (.isub, 1) := by decide +kernel
theorem d_M_cut_10 : decode prog_4_method_13_code 10 = .ok (.i2l, 1) := by decide +kernel
theorem d_M_cut_11 : decode prog_4_method_13_code 11 = .ok (.invokestatic 41, 3) := by decide +kernel
theorem d_M_cut_14 : decode prog_4_method_13_code 14 = .ok (.ifCond .ne 7, 3) := by decide +kernel
theorem d_M_cut_17 : decode prog_4_method_13_code 17 = .ok (.iconst 1, 1) := by decide +kernel
theorem d_M_cut_18 : decode prog_4_method_13_code 18 = .ok (.goto 18, 3) := by decide +kernel
theorem d_M_cut_21 : decode prog_4_method_13_code 21 = .ok (.iload_n 2, 1) := by decide +kernel
theorem d_M_cut_22 : decode prog_4_method_13_code 22 = .ok (.i2l, 1) := by decide +kernel
theorem d_M_cut_23 : decode prog_4_method_13_code 23 = .ok (.lconst 0, 1) := by decide +kernel
theorem d_M_cut_24 : decode prog_4_method_13_code 24 = .ok (.lconst 1, 1) := by decide +kernel
theorem d_M_cut_25 : decode prog_4_method_13_code 25 = .ok (.invokestatic 41, 3) := by decide +kernel
theorem d_M_cut_28 : decode prog_4_method_13_code 28 = .ok (.ifCond .eq 7, 3) := by decide +kernel
theorem d_M_cut_31 : decode prog_4_method_13_code 31 = .ok (.iconst 0, 1) := by decide +kernel
theorem d_M_cut_32 : decode prog_4_method_13_code 32 = .ok (.goto 4, 3) := by decide +kernel
theorem d_M_cut_35 : decode prog_4_method_13_code 35 = .ok (.iconst 2, 1) := by decide +kernel
theorem d_M_cut_36 : decode prog_4_method_13_code 36 = .ok (.putfield 26, 3) := by decide +kernel
theorem d_M_cut_39 : decode prog_4_method_13_code 39 = .ok (.aload_n 0, 1) := by decide +kernel
theorem d_M_cut_40 : decode prog_4_method_13_code 40 = .ok (.getfield 26, 3) := by decide +kernel
theorem d_M_cut_43 : decode prog_4_method_13_code 43 = .ok (.ifCond .le 5, 3) := by decide +kernel
theorem d_M_cut_46 : decode prog_4_method_13_code 46 = .ok (.lconst 0, 1) := by decide +kernel
theorem d_M_cut_47 : decode prog_4_method_13_code 47 = .ok (.lreturn, 1) := by decide +kernel
theorem d_M_cut_48 : decode prog_4_method_13_code 48 = .ok (.iload_n 2, 1) := by decide +kernel
theorem d_M_cut_49 : decode prog_4_method_13_code 49 = .ok (.ifCond .ne 12, 3) := by decide +kernel
theorem d_M_cut_52 : decode prog_4_method_13_code 52 = .ok (.aload_n 0, 1) := by decide +kernel
theorem d_M_cut_53 : decode prog_4_method_13_code 53 = .ok (.getfield 13, 3) := by decide +kernel
theorem d_M_cut_56 : decode prog_4_method_13_code 56 = .ok (.iload_n 1, 1) := by decide +kernel
theorem d_M_cut_57 : decode prog_4_method_13_code 57 = .ok (.laload, 1) := by decide +kernel
theorem d_M_cut_58 : decode prog_4_method_13_code 58 = .ok (.goto 9, 3) := by decide +kernel
theorem d_M_cut_61 : decode prog_4_method_13_code 61 = .ok (.aload_n 0, 1) := by decide +kernel
theorem d_M_cut_62 : decode prog_4_method_13_code 62 = .ok (.getfield 17, 3) := by decide +kernel
theorem d_M_cut_65 : decode prog_4_method_13_code 65 = .ok (.iload_n 1, 1) := by decide +kernel
theorem d_M_cut_66 : decode prog_4_method_13_code 66 = .ok (.laload, 1) := by decide +kernel
theorem d_M_cut_67 : decode prog_4_method_13_code 67 = .ok (.lreturn, 1) := by decide +kernel
theorem d_M_sampleX_0 : decode prog_4_method_14_code 0 = .ok (.iload_n 1, 1) := by decide +kernel
theorem d_M_sampleX_1 : decode prog_4_method_14_code 1 = .ok (.iconst 2, 1) := by decide +kernel
theorem d_M_sampleX_2 : decode prog_4_method_14_code 2 = .ok (.idiv, 1) := by decide +kernel
theorem d_M_sampleX_3 : decode prog_4_method_14_code 3 = .ok (.istore_n 2, 1) := by decide +kernel
theorem d_M_sampleX_4 : decode prog_4_method_14_code 4 = .ok (.aload_n 0, 1) := by decide +kernel
theorem d_M_sampleX_5 : decode prog_4_method_14_code 5 = .ok (.getfield 51, 3) := by decide +kernel
theorem d_M_sampleX_8 : decode prog_4_method_14_code 8 = .ok (.ifCond .ne 12, 3) := by decide +kernel
theorem d_M_sampleX_11 : decode prog_4_method_14_code 11 = .ok (.aload_n 0, 1) := by decide +kernel
theorem d_M_sampleX_12 : decode prog_4_method_14_code 12 = .ok (.lconst 0, 1) := by decide +kernel
theorem d_M_sampleX_13 : decode prog_4_method_14_code 13 = .ok (.lconst 1, 1) := by decide +kernel
theorem d_M_sampleX_14 : decode prog_4_method_14_code 14 = .ok (.invokevirtual 54, 3) := by decide +kernel
theorem d_M_sampleX_17 : decode prog_4_method_14_code 17 = .ok (.goto 153, 3) := by decide +kernel
theorem d_M_sampleX_20 : decode prog_4_method_14_code 20 = .ok (.iload_n 1, 1) := by decide +kernel
theorem d_M_sampleX_21 : decode prog_4_method_14_code 21 = .ok (.iconst 2, 1) := by decide +kernel
theorem d_M_sampleX_22 : decode prog_4_method_14_code 22 = .ok (.irem, 1) := by decide +kernel
theorem d_M_sampleX_23 : decode prog_4_method_14_code 23 = .ok (.iconst 1, 1) := by decide +kernel
theorem d_M_sampleX_24 : decode prog_4_method_14_code 24 = .ok (.if_icmp .ne 22, 3) := by decide +kernel
theorem d_M_sampleX_27 : decode prog_4_method_14_code 27 = .ok (.aload_n 0, 1) := by decide +kernel
theorem d_M_sampleX_28 : decode prog_4_method_14_code 28 = .ok (.aload_n 0, 1) := by decide +kernel
theorem d_M_sampleX_29 : decode prog_4_method_14_code 29 = .ok (.getfield 13, 3) := by decide +kernel
theorem d_M_sampleX_32 : decode prog_4_method_14_code 32 = .ok (.iload_n 2, 1) := by decide +kernel
theorem d_M_sampleX_33 : decode prog_4_method_14_code 33 = .ok (.laload, 1) := by decide +kernel
theorem d_M_sampleX_34 : decode prog_4_method_14_code 34 = .ok (.aload_n 0, 1) := by decide +kernel
theorem d_M_sampleX_35 : decode prog_4_method_14_code 35 = .ok (.getfield 17, 3) := by decide +kernel
theorem d_M_sampleX_38 : decode prog_4_method_14_code 38 = .ok (.iload_n 2, 1) := by decide +kernel
theorem d_M_sampleX_39 : decode prog_4_method_14_code 39 = .ok (.laload, 1) := by decide +kernel
theorem d_M_sampleX_40 : decode prog_4_method_14_code 40 = .ok (.invokevirtual 54, 3) := by decide +kernel
theorem d_M_sampleX_43 : decode prog_4_method_14_code 43 = .ok (.goto 127, 3) := by decide +kernel
theorem d_M_sampleX_46 : decode prog_4_method_14_code 46 = .ok (.iload_n 1, 1) := by decide +kernel
theorem d_M_sampleX_47 : decode prog_4_method_14_code 47 = .ok (.ifCond .ne 29, 3) := by decide +kernel
theorem d_M_sampleX_50 : decode prog_4_method_14_code 50 = .ok (.aload_n 0, 1) := by decide +kernel
theorem d_M_sampleX_51 : decode prog_4_method_14_code 51 = .ok (.aload_n 0, 1) := by decide +kernel
theorem d_M_sampleX_52 : decode prog_4_method_14_code 52 = .ok (.getfield 13, 3) := by decide +kernel
theorem d_M_sampleX_55 : decode prog_4_method_14_code 55 = .ok (.iconst 0, 1) := by decide +kernel
theorem d_M_sampleX_56 : decode prog_4_method_14_code 56 = .ok (.laload, 1) := by decide +kernel
theorem d_M_sampleX_57 : decode prog_4_method_14_code 57 = .ok (.aload_n 0, 1) := by decide +kernel
theorem d_M_sampleX_58 : decode prog_4_method_14_code 58 = .ok (.getfield 17, 3) := by decide +kernel
theorem d_M_sampleX_61 : decode prog_4_method_14_code 61 = .ok (.iconst 0, 1) := by decide +kernel
theorem d_M_sampleX_62 : decode prog_4_method_14_code 62 = .ok (.laload, 1) := by decide +kernel
theorem d_M_sampleX_63 : decode prog_4_method_14_code 63 = .ok (.lsub, 1) := by decide +kernel
theorem d_M_sampleX_64 : decode prog_4_method_14_code 64 = .ok (.aload_n 0, 1) := by decide +kernel
theorem d_M_sampleX_65 : decode prog_4_method_14_code 65 = .ok (.getfield 17, 3) := by decide +kernel
theorem d_M_sampleX_68 : decode prog_4_method_14_code 68 = .ok (.iconst 0, 1) := by decide +kernel
theorem d_M_sampleX_69 : decode prog_4_method_14_code 69 = .ok (.laload, 1) := by decide +kernel
theorem d_M_sampleX_70 : decode prog_4_method_14_code 70 = .ok (.invokevirtual 54, 3) := by decide +kernel
theorem d_M_sampleX_73 : decode prog_4_method_14_code 73 = .ok (.goto 97, 3) := by decide +kernel
theorem d_M_sampleX_76 : decode prog_4_method_14_code 76 = .ok (.iload_n 2, 1) := by decide +kernel
theorem d_M_sampleX_77 : decode prog_4_method_14_code 77 = .ok (.aload_n 0, 1) := by decide +kernel
theorem d_M_sampleX_78 : decode prog_4_method_14_code 78 = .ok (.getfield 51, 3) := by decide +kernel
theorem d_M_sampleX_81 : decode prog_4_method_14_code 81 = .ok (.if_icmp .ne 35, 3) := by decide +kernel
theorem d_M_sampleX_84 : decode prog_4_method_14_code 84 = .ok (.aload_n 0, 1) := by decide +kernel
theorem d_M_sampleX_85 : decode prog_4_method_14_code 85 = .ok (.aload_n 0, 1) := by decide +kernel
theorem d_M_sampleX_86 : decode prog_4_method_14_code 86 = .ok (.getfield 13, 3) := by decide +kernel
theorem d_M_sampleX_89 : decode prog_4_method_14_code 89 = .ok (.iload_n 2, 1) := by decide +kernel
theorem d_M_sampleX_90 : decode prog_4_method_14_code 90 = .ok (.iconst 1, 1) := by decide +kernel
theorem d_M_sampleX_91 : decode prog_4_method_14_code 91 = .ok (.isub, 1) := by decide +kernel
theorem d_M_sampleX_92 : decode prog_4_method_14_code 92 = .ok (.laload, 1) := by decide +kernel
theorem d_M_sampleX_93 : decode prog_4_method_14_code 93 = .ok (.aload_n 0, 1) := by decide +kernel
theorem d_M_sampleX_94 : decode prog_4_method_14_code 94 = .ok (.getfield 17, 3) := by decide +kernel
theorem d_M_sampleX_97 : decode prog_4_method_14_code 97 = .ok (.iload_n 2, 1) := by decide +kernel
theorem d_M_sampleX_98 : decode prog_4_method_14_code 98 = .ok (.iconst 1, 1) := by decide +kernel
theorem d_M_sampleX_99 : decode prog_4_method_14_code 99 = .ok (.isub, 1) := by decide +kernel
theorem d_M_sampleX_100 : decode prog_4_method_14_code 100 = .ok (.laload, 1) := by decide +kernel
theorem d_M_sampleX_101 : decode prog_4_method_14_code 101 = .ok (.ladd, 1) := by decide +kernel
theorem d_M_sampleX_102 : decode prog_4_method_14_code 102 = .ok (.aload_n 0, 1) := by decide +kernel
theorem d_M_sampleX_103 : decode prog_4_method_14_code 103 = .ok (.getfield 17, 3) := by decide +kernel
theorem d_M_sampleX_106 : decode prog_4_method_14_code 106 = .ok (.iload_n 2, 1) := by decide +kernel
theorem d_M_sampleX_107 : decode prog_4_method_14_code 107 = .ok (.iconst 1, 1) := by decide +kernel
theorem d_M_sampleX_108 : decode prog_4_method_14_code 108 = .ok (.isub, 1) := by decide +kernel
theorem d_M_sampleX_109 : decode prog_4_method_14_code 109 = .ok (.laload, 1) := by decide +kernel
theorem d_M_sampleX_110 : decode prog_4_method_14_code 110 = .ok (.invokevirtual 54, 3) := by decide +kernel
theorem d_M_sampleX_113 : decode prog_4_method_14_code 113 = .ok (.goto 57, 3) := by decide +kernel
theorem d_M_sampleX_116 : decode prog_4_method_14_code 116 = .ok (.aload_n 0, 1) := by decide +kernel
theorem d_M_sampleX_117 : decode prog_4_method_14_code 117 = .ok (.aload_n 0, 1) := by decide +kernel
theorem d_M_sampleX_118 : decode prog_4_method_14_code 118 = .ok (.getfield 13, 3) := by decide +kernel
theorem d_M_sampleX_121 : decode prog_4_method_14_code 121 = .ok (.iload_n 2, 1) := by decide +kernel
theorem d_M_sampleX_122 : decode prog_4_method_14_code 122 = .ok (.iconst 1, 1) := by decide +kernel
theorem d_M_sampleX_123 : decode prog_4_method_14_code 123 = .ok (.isub, 1) := by decide +kernel
theorem d_M_sampleX_124 : decode prog_4_method_14_code 124 = .ok (.laload, 1) := by decide +kernel
theorem d_M_sampleX_125 : decode prog_4_method_14_code 125 = .ok (.aload_n 0, 1) := by decide +kernel
theorem d_M_sampleX_126 : decode prog_4_method_14_code 126 = .ok (.getfield 17, 3) := by decide +kernel
theorem d_M_sampleX_129 : decode prog_4_method_14_code 129 = .ok (.iload_n 2, 1) := by decide +kernel
theorem d_M_sampleX_130 : decode prog_4_method_14_code 130 = .ok (.laload, 1) := by decide +kernel
theorem d_M_sampleX_131 : decode prog_4_method_14_code 131 = .ok (.lmul, 1) := by decide +kernel
theorem d_M_sampleX_132 : decode prog_4_method_14_code 132 = .ok (.aload_n 0, 1) := by decide +kernel
theorem d_M_sampleX_133 : decode prog_4_method_14_code 133 = .ok (.getfield 13, 3) := by decide +kernel
theorem d_M_sampleX_136 : decode prog_4_method_14_code 136 = .ok (.iload_n 2, 1) := by decide +kernel
theorem d_M_sampleX_137 : decode prog_4_method_14_code 137 = .ok (.laload, 1) := by decide +kernel
theorem d_M_sampleX_138 : decode prog_4_method_14_code 138 = .ok (.aload_n 0, 1) := by decide +kernel
theorem d_M_sampleX_139 : decode prog_4_method_14_code 139 = .ok (.getfield 17, 3) := by decide +kernel
theorem d_M_sampleX_142 : decode prog_4_method_14_code 142 = .ok (.iload_n 2, 1) := by decide +kernel
theorem d_M_sampleX_143 : decode prog_4_method_14_code 143 = .ok (.iconst 1, 1) := by decide +kernel
theorem d_M_sampleX_144 : decode prog_4_method_14_code 144 = .ok (.isub, 1) := by decide +kernel
theorem d_M_sampleX_145 : decode prog_4_method_14_code 145 = .ok (.laload, 1) := by decide +kernel
theorem d_M_sampleX_146 : decode prog_4_method_14_code 146 = .ok (.lmul, 1) := by decide +kernel
theorem d_M_sampleX_147 : decode prog_4_method_14_code 147 = .ok (.ladd, 1) := by decide +kernel
theorem d_M_sampleX_148 : decode prog_4_method_14_code 148 = .ok (.ldc2_w 61, 3) := by decide +kernel
theorem d_M_sampleX_151 : decode prog_4_method_14_code 151 = .ok (.aload_n 0, 1) := by decide +kernel
theorem d_M_sampleX_152 : decode prog_4_method_14_code 152 = .ok (.getfield 17, 3) := by decide +kernel
theorem d_M_sampleX_155 : decode prog_4_method_14_code 155 = .ok (.iload_n 2, 1) := by decide +kernel
theorem d_M_sampleX_156 : decode prog_4_method_14_code 156 = .ok (.iconst 1, 1) := by decide +kernel
theorem d_M_sampleX_157 : decode prog_4_method_14_code 157 = .ok (.isub, 1) := by decide +kernel
theorem d_M_sampleX_158 : decode prog_4_method_14_code 158 = .ok (.laload, 1) := by decide +kernel
theorem d_M_sampleX_159 : decode prog_4_method_14_code 159 = .ok (.lmul, 1) := by decide +kernel
theorem d_M_sampleX_160 : decode prog_4_method_14_code 160 = .ok (.aload_n 0, 1) := by decide +kernel
theorem d_M_sampleX_161 : decode prog_4_method_14_code 161 = .ok (.getfield 17, 3) := by decide +kernel
theorem d_M_sampleX_164 : decode prog_4_method_14_code 164 = .ok (.iload_n 2, 1) := by decide +kernel
theorem d_M_sampleX_165 : decode prog_4_method_14_code 165 = .ok (.laload, 1) := by decide +kernel
theorem d_M_sampleX_166 : decode prog_4_method_14_code 166 = .ok (.lmul, 1) := by decide +kernel
theorem d_M_sampleX_167 : decode prog_4_method_14_code 167 = .ok (.invokevirtual 54, 3) := by decide +kernel
theorem d_M_sampleX_170 : decode prog_4_method_14_code 170 = .ok (.aload_n 0, 1) := by decide +kernel
theorem d_M_sampleX_171 : decode prog_4_method_14_code 171 = .ok (.aload_n 0, 1) := by decide +kernel
theorem d_M_sampleX_172 : decode prog_4_method_14_code 172 = .ok (.getfield 30, 3) := by decide +kernel
theorem d_M_sampleX_175 : decode prog_4_method_14_code 175 = .ok (.putfield 63, 3) := by decide +kernel
theorem d_M_sampleX_178 : decode prog_4_method_14_code 178 = .ok (.aload_n 0, 1) := by decide +kernel
theorem d_M_sampleX_179 : decode prog_4_method_14_code 179 = .ok (.aload_n 0, 1) := by decide +kernel
theorem d_M_sampleX_180 : decode prog_4_method_14_code 180 = .ok (.getfield 34, 3) := by decide +kernel
theorem d_M_sampleX_183 : decode prog_4_method_14_code 183 = .ok (.putfield 66, 3) := by decide +kernel
theorem d_M_sampleX_186 : decode prog_4_method_14_code 186 = .ok (.return_, 1) := by decide +kernel
theorem d_M_lineAt_0 : decode prog_4_method_15_code 0 = .ok (.aload_n 0, 1) := by decide +kernel
theorem d_M_lineAt_1 : decode prog_4_method_15_code 1 = .ok (.aload_n 0, 1) := by decide +kernel
theorem d_M_lineAt_2 : decode prog_4_method_15_code 2 = .ok (.getfield 7, 3) := by decide +kernel
theorem d_M_lineAt_5 : decode prog_4_method_15_code 5 = .ok (.iconst 3, 1) := by decide +kernel
theorem d_M_lineAt_6 : decode prog_4_method_15_code 6 = .ok (.iload_n 1, 1) := by decide +kernel
theorem d_M_lineAt_7 : decode prog_4_method_15_code 7 = .ok (.imul, 1) := by decide +kernel
theorem d_M_lineAt_8 : decode prog_4_method_15_code 8 = .ok (.iaload, 1) := by decide +kernel
theorem d_M_lineAt_9 : decode prog_4_method_15_code 9 = .ok (.i2l, 1) := by decide +kernel
theorem d_M_lineAt_10 : decode prog_4_method_15_code 10 = .ok (.aload_n 0, 1) := by decide +kernel
theorem d_M_lineAt_11 : decode prog_4_method_15_code 11 = .ok (.getfield 63, 3) := by decide +kernel
theorem d_M_lineAt_14 : decode prog_4_method_15_code 14 = .ok (.lmul, 1) := by decide +kernel
theorem d_M_lineAt_15 : decode prog_4_method_15_code 15 = .ok (.aload_n 0, 1) := by decide +kernel
theorem d_M_lineAt_16 : decode prog_4_method_15_code 16 = .ok (.getfield 7, 3) := by decide +kernel
theorem d_M_lineAt_19 : decode prog_4_method_15_code 19 = .ok (.iconst 3, 1) := by decide +kernel
theorem d_M_lineAt_20 : decode prog_4_method_15_code 20 = .ok (.iload_n 1, 1) := by decide +kernel
theorem d_M_lineAt_21 : decode prog_4_method_15_code 21 = .ok (.imul, 1) := by decide +kernel
theorem d_M_lineAt_22 : decode prog_4_method_15_code 22 = .ok (.iconst 2, 1) := by decide +kernel
theorem d_M_lineAt_23 : decode prog_4_method_15_code 23 = .ok (.iadd, 1) := by decide +kernel
theorem d_M_lineAt_24 : decode prog_4_method_15_code 24 = .ok (.iaload, 1) := by decide +kernel
theorem d_M_lineAt_25 : decode prog_4_method_15_code 25 = .ok (.i2l, 1) := by decide +kernel
theorem d_M_lineAt_26 : decode prog_4_method_15_code 26 = .ok (.aload_n 0, 1) := by decide +kernel
theorem d_M_lineAt_27 : decode prog_4_method_15_code 27 = .ok (.getfield 66, 3) := by decide +kernel
theorem d_M_lineAt_30 : decode prog_4_method_15_code 30 = .ok (.lmul, 1) := by decide +kernel
theorem d_M_lineAt_31 : decode prog_4_method_15_code 31 = .ok (.ladd, 1) := by decide +kernel
theorem d_M_lineAt_32 : decode prog_4_method_15_code 32 = .ok (.lneg, 1) := by decide +kernel
theorem d_M_lineAt_33 : decode prog_4_method_15_code 33 = .ok (.aload_n 0, 1) := by decide +kernel
theorem d_M_lineAt_34 : decode prog_4_method_15_code 34 = .ok (.getfield 7, 3) := by decide +kernel
theorem d_M_lineAt_37 : decode prog_4_method_15_code 37 = .ok (.iconst 3, 1) := by decide +kernel
theorem d_M_lineAt_38 : decode prog_4_method_15_code 38 = .ok (.iload_n 1, 1) := by decide +kernel
theorem d_M_lineAt_39 : decode prog_4_method_15_code 39 = .ok (.imul, 1) := by decide +kernel
theorem d_M_lineAt_40 : decode prog_4_method_15_code 40 = .ok (.iconst 1, 1) := by decide +kernel
theorem d_M_lineAt_41 : decode prog_4_method_15_code 41 = .ok (.iadd, 1) := by decide +kernel
theorem d_M_lineAt_42 : decode prog_4_method_15_code 42 = .ok (.iaload, 1) := by decide +kernel
theorem d_M_lineAt_43 : decode prog_4_method_15_code 43 = .ok (.i2l, 1) := by decide +kernel
theorem d_M_lineAt_44 : decode prog_4_method_15_code 44 = .ok (.aload_n 0, 1) := by decide +kernel
theorem d_M_lineAt_45 : decode prog_4_method_15_code 45 = .ok (.getfield 66, 3) := by decide +kernel
theorem d_M_lineAt_48 : decode prog_4_method_15_code 48 = .ok (.lmul, 1) := by decide +kernel
theorem d_M_lineAt_49 : decode prog_4_method_15_code 49 = .ok (.invokevirtual 54, 3) := by decide +kernel
theorem d_M_lineAt_52 : decode prog_4_method_15_code 52 = .ok (.return_, 1) := by decide +kernel
theorem d_M_findCurves_0 : decode prog_4_method_16_code 0 = .ok (.aload_n 0, 1) := by decide +kernel
theorem d_M_findCurves_1 : decode prog_4_method_16_code 1 = .ok (.iconst 0, 1) := by decide +kernel
theorem d_M_findCurves_2 : decode prog_4_method_16_code 2 = .ok (.putfield 69, 3) := by decide +kernel
theorem d_M_findCurves_5 : decode prog_4_method_16_code 5 = .ok (.iconst 0, 1) := by decide +kernel
theorem d_M_findCurves_6 : decode prog_4_method_16_code 6 = .ok (.istore_n 1, 1) := by decide +kernel
theorem d_M_findCurves_7 : decode prog_4_method_16_code 7 = .ok (.iload_n 1, 1) := by decide +kernel
theorem d_M_findCurves_8 : decode prog_4_method_16_code 8 = .ok (.aload_n 0, 1) := by decide +kernel
theorem d_M_findCurves_9 : decode prog_4_method_16_code 9 = .ok (.getfield 45, 3) := by decide +kernel
theorem d_M_findCurves_12 : decode prog_4_method_16_code 12 = .ok (.if_icmp .ge 148, 3) := by decide +kernel
theorem d_M_findCurves_15 : decode prog_4_method_16_code 15 = .ok (.aload_n 0, 1) := by decide +kernel
theorem d_M_findCurves_16 : decode prog_4_method_16_code 16 = .ok (.getfield 7, 3) := by decide +kernel
theorem d_M_findCurves_19 : decode prog_4_method_16_code 19 = .ok (.iconst 3, 1) := by decide +kernel
theorem d_M_findCurves_20 : decode prog_4_method_16_code 20 = .ok (.iload_n 1, 1) := by decide +kernel
theorem d_M_findCurves_21 : decode prog_4_method_16_code 21 = .ok (.imul, 1) := by decide +kernel
theorem d_M_findCurves_22 : decode prog_4_method_16_code 22 = .ok (.iconst 1, 1) := by decide +kernel
theorem d_M_findCurves_23 : decode prog_4_method_16_code 23 = .ok (.iadd, 1) := by decide +kernel
theorem d_M_findCurves_24 : decode prog_4_method_16_code 24 = .ok (.iaload, 1) := by decide +kernel
theorem d_M_findCurves_25 : decode prog_4_method_16_code 25 = .ok (.ifCond .ne 6, 3) := by decide +kernel
theorem d_M_findCurves_28 : decode prog_4_method_16_code 28 = .ok (.goto 126, 3) := by decide +kernel
theorem d_M_findCurves_31 : decode prog_4_method_16_code 31 = .ok (.aload_n 0, 1) := by decide +kernel
theorem d_M_findCurves_32 : decode prog_4_method_16_code 32 = .ok (.iload_n 1, 1) := by decide +kernel
theorem d_M_findCurves_33 : decode prog_4_method_16_code 33 = .ok (.invokevirtual 72, 3) := by decide +kernel
theorem d_M_findCurves_36 : decode prog_4_method_16_code 36 = .ok (.aload_n 0, 1) := by decide +kernel
theorem d_M_findCurves_37 : decode prog_4_method_16_code 37 = .ok (.invokevirtual 76, 3) := by decide +kernel
theorem d_M_findCurves_40 : decode prog_4_method_16_code 40 = .ok (.istore_n 2, 1) := by decide +kernel
theorem d_M_findCurves_41 : decode prog_4_method_16_code 41 = .ok (.iload_n 2, 1) := by decide +kernel
theorem d_M_findCurves_42 : decode prog_4_method_16_code 42 = .ok (.aload_n 0, 1) := by decide +kernel
theorem d_M_findCurves_43 : decode prog_4_method_16_code 43 = .ok (.getfield 69, 3) := by decide +kernel
theorem d_M_findCurves_46 : decode prog_4_method_16_code 46 = .ok (.if_icmp .ge 34, 3) := by decide +kernel
theorem d_M_findCurves_49 : decode prog_4_method_16_code 49 = .ok (.aload_n 0, 1) := by decide +kernel
theorem d_M_findCurves_50 : decode prog_4_method_16_code 50 = .ok (.getfield 20, 3) := by decide +kernel
theorem d_M_findCurves_53 : decode prog_4_method_16_code 53 = .ok (.iload_n 2, 1) := by decide +kernel
theorem d_M_findCurves_54 : decode prog_4_method_16_code 54 = .ok (.laload, 1) := by decide +kernel
theorem d_M_findCurves_55 : decode prog_4_method_16_code 55 = .ok (.aload_n 0, 1) := by decide +kernel
theorem d_M_findCurves_56 : decode prog_4_method_16_code 56 = .ok (.getfield 30, 3) := by decide +kernel
theorem d_M_findCurves_59 : decode prog_4_method_16_code 59 = .ok (.lcmp, 1) := by decide +kernel
theorem d_M_findCurves_60 : decode prog_4_method_16_code 60 = .ok (.ifCond .ne 20, 3) := by decide +kernel
theorem d_M_findCurves_63 : decode prog_4_method_16_code 63 = .ok (.aload_n 0, 1) := by decide +kernel
theorem d_M_findCurves_64 : decode prog_4_method_16_code 64 = .ok (.getfield 23, 3) := by decide +kernel
theorem d_M_findCurves_67 : decode prog_4_method_16_code 67 = .ok (.iload_n 2, 1) := by decide +kernel
theorem d_M_findCurves_68 : decode prog_4_method_16_code 68 = .ok (.laload, 1) := by decide +kernel
theorem d_M_findCurves_69 : decode prog_4_method_16_code 69 = .ok (.aload_n 0, 1) := by decide +kernel
theorem d_M_findCurves_70 : decode prog_4_method_16_code 70 = .ok (.getfield 34, 3) := by decide +kernel
theorem d_M_findCurves_73 : decode prog_4_method_16_code 73 = .ok (.lcmp, 1) := by decide +kernel
theorem d_M_findCurves_74 : decode prog_4_method_16_code 74 = .ok (.ifCond .ne 6, 3) := by decide +kernel
theorem d_M_findCurves_77 : decode prog_4_method_16_code 77 = .ok (.goto 77, 3) := by decide +kernel
theorem d_M_findCurves_80 : decode prog_4_method_16_code 80 = .ok (.aload_n 0, 1) := by decide +kernel
theorem d_M_findCurves_81 : decode prog_4_method_16_code 81 = .ok (.getfield 69, 3) := by decide +kernel
theorem d_M_findCurves_84 : decode prog_4_method_16_code 84 = .ok (.istore_n 3, 1) := by decide +kernel
theorem d_M_findCurves_85 : decode prog_4_method_16_code 85 = .ok (.iload_n 3, 1) := by decide +kernel
theorem d_M_findCurves_86 : decode prog_4_method_16_code 86 = .ok (.iload_n 2, 1) := by decide +kernel
theorem d_M_findCurves_87 : decode prog_4_method_16_code 87 = .ok (.if_icmp .le 37, 3) := by decide +kernel
theorem d_M_findCurves_90 : decode prog_4_method_16_code 90 = .ok (.aload_n 0, 1) := by decide +kernel
theorem d_M_findCurves_91 : decode prog_4_method_16_code 91 = .ok (.getfield 20, 3) := by decide +kernel
theorem d_M_findCurves_94 : decode prog_4_method_16_code 94 = .ok (.iload_n 3, 1) := by decide +kernel
theorem d_M_findCurves_95 : decode prog_4_method_16_code 95 = .ok (.aload_n 0, 1) := by decide +kernel
theorem d_M_findCurves_96 : decode prog_4_method_16_code 96 = .ok (.getfield 20, 3) := by decide +kernel
theorem d_M_findCurves_99 : decode prog_4_method_16_code 99 = .ok (.iload_n 3, 1) := by decide +kernel
theorem d_M_findCurves_100 : decode prog_4_method_16_code 100 = .ok (.iconst 1, 1) := by decide +kernel
theorem d_M_findCurves_101 : decode prog_4_method_16_code 101 = .ok (.isub, 1) := by decide +kernel
theorem d_M_findCurves_102 : decode prog_4_method_16_code 102 = .ok (.laload, 1) := by decide +kernel
theorem d_M_findCurves_103 : decode prog_4_method_16_code 103 = .ok (.lastore, 1) := by decide +kernel
theorem d_M_findCurves_104 : decode prog_4_method_16_code 104 = .ok (.aload_n 0, 1) := by decide +kernel
theorem d_M_findCurves_105 : decode prog_4_method_16_code 105 = .ok (.getfield 23, 3) := by decide +kernel
theorem d_M_findCurves_108 : decode prog_4_method_16_code 108 = .ok (.iload_n 3, 1) := by decide +kernel
theorem d_M_findCurves_109 : decode prog_4_method_16_code 109 = .ok (.aload_n 0, 1) := by decide +kernel
theorem d_M_findCurves_110 : decode prog_4_method_16_code 110 = .ok (.getfield 23, 3) := by decide +kernel
theorem d_M_findCurves_113 : decode prog_4_method_16_code 113 = .ok (.iload_n 3, 1) := by decide +kernel
theorem d_M_findCurves_114 : decode prog_4_method_16_code 114 = .ok (.iconst 1, 1) := by decide +kernel
theorem d_M_findCurves_115 : decode prog_4_method_16_code 115 = .ok (.isub, 1) := by decide +kernel
theorem d_M_findCurves_116 : decode prog_4_method_16_code 116 = .ok (.laload, 1) := by decide +kernel
theorem d_M_findCurves_117 : decode prog_4_method_16_code 117 = .ok (.lastore, 1) := by decide +kernel
theorem d_M_findCurves_118 : decode prog_4_method_16_code 118 = .ok (.iinc 3 (-1), 3) := by decide +kernel
theorem d_M_findCurves_121 : decode prog_4_method_16_code 121 = .ok (.goto (-36), 3) := by decide +kernel
theorem d_M_findCurves_124 : decode prog_4_method_16_code 124 = .ok (.aload_n 0, 1) := by decide +kernel
theorem d_M_findCurves_125 : decode prog_4_method_16_code 125 = .ok (.getfield 20, 3) := by decide +kernel
theorem d_M_findCurves_128 : decode prog_4_method_16_code 128 = .ok (.iload_n 2, 1) := by decide +kernel
theorem d_M_findCurves_129 : decode prog_4_method_16_code 129 = .ok (.aload_n 0, 1) := by decide +kernel
theorem d_M_findCurves_130 : decode prog_4_method_16_code 130 = .ok (.getfield 30, 3) := by decide +kernel
theorem d_M_findCurves_133 : decode prog_4_method_16_code 133 = .ok (.lastore, 1) := by decide +kernel
theorem d_M_findCurves_134 : decode prog_4_method_16_code 134 = .ok (.aload_n 0, 1) := by decide +kernel
theorem d_M_findCurves_135 : decode prog_4_method_16_code 135 = .ok (.getfield 23, 3) := by decide +kernel
theorem d_M_findCurves_138 : decode prog_4_method_16_code 138 = .ok (.iload_n 2, 1) := by decide +kernel
theorem d_M_findCurves_139 : decode prog_4_method_16_code 139 = .ok (.aload_n 0, 1) := by decide +kernel
theorem d_M_findCurves_140 : decode prog_4_method_16_code 140 = .ok (.getfield 34, 3) := by decide +kernel
theorem d_M_findCurves_143 : decode prog_4_method_16_code 143 = .ok (.lastore, 1) := by decide +kernel
theorem d_M_findCurves_144 : decode prog_4_method_16_code 144 = .ok (.aload_n 0, 1) := by decide +kernel
theorem d_M_findCurves_145 : decode prog_4_method_16_code 145 = .ok (.dup, 1) := by decide +kernel
theorem d_M_findCurves_146 : decode prog_4_method_16_code 146 = .ok (.getfield 69, 3) := by decide +kernel
theorem d_M_findCurves_149 : decode prog_4_method_16_code 149 = .ok (.iconst 1, 1) := by decide +kernel
theorem d_M_findCurves_150 : decode prog_4_method_16_code 150 = .ok (.iadd, 1) := by decide +kernel
theorem d_M_findCurves_151 : decode prog_4_method_16_code 151 = .ok (.putfield 69, 3) := by decide +kernel
theorem d_M_findCurves_154 : decode prog_4_method_16_code 154 = .ok (.iinc 1 1, 3) := by decide +kernel
theorem d_M_findCurves_157 : decode prog_4_method_16_code 157 = .ok (.goto (-150), 3) := by decide +kernel
theorem d_M_findCurves_160 : decode prog_4_method_16_code 160 = .ok (.return_, 1) := by decide +kernel
theorem d_M_below_0 : decode prog_4_method_17_code 0 = .ok (.iconst 0, 1) := by decide +kernel
theorem d_M_below_1 : decode prog_4_method_17_code 1 = .ok (.istore_n 1, 1) := by decide +kernel
theorem d_M_below_2 : decode prog_4_method_17_code 2 = .ok (.iload_n 1, 1) := by decide +kernel
theorem d_M_below_3 : decode prog_4_method_17_code 3 = .ok (.aload_n 0, 1) := by decide +kernel
theorem d_M_below_4 : decode prog_4_method_17_code 4 = .ok (.getfield 69, 3) := by decide +kernel
theorem d_M_below_7 : decode prog_4_method_17_code 7 = .ok (.if_icmp .ge 35, 3) := by decide +kernel
theorem d_M_below_10 : decode prog_4_method_17_code 10 = .ok (.aload_n 0, 1) := by decide +kernel
theorem d_M_below_11 : decode prog_4_method_17_code 11 = .ok (.getfield 20, 3) := by decide +kernel
theorem d_M_below_14 : decode prog_4_method_17_code 14 = .ok (.iload_n 1, 1) := by decide +kernel
theorem d_M_below_15 : decode prog_4_method_17_code 15 = .ok (.laload, 1) := by decide +kernel
theorem d_M_below_16 : decode prog_4_method_17_code 16 = .ok (.aload_n 0, 1) := by decide +kernel
theorem d_M_below_17 : decode prog_4_method_17_code 17 = .ok (.getfield 34, 3) := by decide +kernel
theorem d_M_below_20 : decode prog_4_method_17_code 20 = .ok (.lmul, 1) := by decide +kernel
theorem d_M_below_21 : decode prog_4_method_17_code 21 = .ok (.aload_n 0, 1) := by decide +kernel
theorem d_M_below_22 : decode prog_4_method_17_code 22 = .ok (.getfield 30, 3) := by decide +kernel
theorem d_M_below_25 : decode prog_4_method_17_code 25 = .ok (.aload_n 0, 1) := by decide +kernel
theorem d_M_below_26 : decode prog_4_method_17_code 26 = .ok (.getfield 23, 3) := by decide +kernel
theorem d_M_below_29 : decode prog_4_method_17_code 29 = .ok (.iload_n 1, 1) := by decide +kernel
theorem d_M_below_30 : decode prog_4_method_17_code 30 = .ok (.laload, 1) := by decide +kernel
theorem d_M_below_31 : decode prog_4_method_17_code 31 = .ok (.lmul, 1) := by decide +kernel
theorem d_M_below_32 : decode prog_4_method_17_code 32 = .ok (.lcmp, 1) := by decide +kernel
theorem d_M_below_33 : decode prog_4_method_17_code 33 = .ok (.ifCond .ge 9, 3) := by decide +kernel
theorem d_M_below_36 : decode prog_4_method_17_code 36 = .ok (.iinc 1 1, 3) := by decide +kernel
theorem d_M_below_39 : decode prog_4_method_17_code 39 = .ok (.goto (-37), 3) := by decide +kernel
theorem d_M_below_42 : decode prog_4_method_17_code 42 = .ok (.iload_n 1, 1) := by decide +kernel
theorem d_M_below_43 : decode prog_4_method_17_code 43 = .ok (.ireturn, 1) := by decide +kernel
theorem d_M_curvesOf_0 : decode prog_4_method_18_code 0 = .ok (.aload_n 0, 1) := by decide +kernel
theorem d_M_curvesOf_1 : decode prog_4_method_18_code 1 = .ok (.iload_n 1, 1) := by decide +kernel
theorem d_M_curvesOf_2 : decode prog_4_method_18_code 2 = .ok (.invokevirtual 80, 3) := by decide +kernel
theorem d_M_curvesOf_5 : decode prog_4_method_18_code 5 = .ok (.aload_n 0, 1) := by decide +kernel
theorem d_M_curvesOf_6 : decode prog_4_method_18_code 6 = .ok (.invokevirtual 83, 3) := by decide +kernel
theorem d_M_curvesOf_9 : decode prog_4_method_18_code 9 = .ok (.return_, 1) := by decide +kernel
theorem d_M_curves_0 : decode prog_4_method_19_code 0 = .ok (.aload_n 0, 1) := by decide +kernel
theorem d_M_curves_1 : decode prog_4_method_19_code 1 = .ok (.iload_n 1, 1) := by decide +kernel
theorem d_M_curves_2 : decode prog_4_method_19_code 2 = .ok (.i2l, 1) := by decide +kernel
theorem d_M_curves_3 : decode prog_4_method_19_code 3 = .ok (.lconst 0, 1) := by decide +kernel
theorem d_M_curves_4 : decode prog_4_method_19_code 4 = .ok (.iconst 2, 1) := by decide +kernel
theorem d_M_curves_5 : decode prog_4_method_19_code 5 = .ok (.aload_n 0, 1) := by decide +kernel
theorem d_M_curves_6 : decode prog_4_method_19_code 6 = .ok (.getfield 51, 3) := by decide +kernel
theorem d_M_curves_9 : decode prog_4_method_19_code 9 = .ok (.imul, 1) := by decide +kernel
theorem d_M_curves_10 : decode prog_4_method_19_code 10 = .ok (.i2l, 1) := by decide +kernel
theorem d_M_curves_11 : decode prog_4_method_19_code 11 = .ok (.invokestatic 41, 3) := by decide +kernel
theorem d_M_curves_14 : decode prog_4_method_19_code 14 = .ok (.ifCond .eq 7, 3) := by decide +kernel
theorem d_M_curves_17 : decode prog_4_method_19_code 17 = .ok (.iconst 0, 1) := by decide +kernel
theorem d_M_curves_18 : decode prog_4_method_19_code 18 = .ok (.goto 4, 3) := by decide +kernel
theorem d_M_curves_21 : decode prog_4_method_19_code 21 = .ok (.iconst 1, 1) := by decide +kernel
theorem d_M_curves_22 : decode prog_4_method_19_code 22 = .ok (.putfield 26, 3) := by decide +kernel
theorem d_M_curves_25 : decode prog_4_method_19_code 25 = .ok (.aload_n 0, 1) := by decide +kernel
theorem d_M_curves_26 : decode prog_4_method_19_code 26 = .ok (.getfield 26, 3) := by decide +kernel
theorem d_M_curves_29 : decode prog_4_method_19_code 29 = .ok (.ifCond .le 5, 3) := by decide +kernel
theorem d_M_curves_32 : decode prog_4_method_19_code 32 = .ok (.iconst 0, 1) := by decide +kernel
theorem d_M_curves_33 : decode prog_4_method_19_code 33 = .ok (.ireturn, 1) := by decide +kernel
theorem d_M_curves_34 : decode prog_4_method_19_code 34 = .ok (.aload_n 0, 1) := by decide +kernel
theorem d_M_curves_35 : decode prog_4_method_19_code 35 = .ok (.iload_n 1, 1) := by decide +kernel
theorem d_M_curves_36 : decode prog_4_method_19_code 36 = .ok (.invokevirtual 86, 3) := by decide +kernel
theorem d_M_curves_39 : decode prog_4_method_19_code 39 = .ok (.aload_n 0, 1) := by decide +kernel
theorem d_M_curves_40 : decode prog_4_method_19_code 40 = .ok (.getfield 69, 3) := by decide +kernel
theorem d_M_curves_43 : decode prog_4_method_19_code 43 = .ok (.ireturn, 1) := by decide +kernel
theorem d_M_total_0 : decode prog_4_method_20_code 0 = .ok (.aload_n 0, 1) := by decide +kernel
theorem d_M_total_1 : decode prog_4_method_20_code 1 = .ok (.iconst 0, 1) := by decide +kernel
theorem d_M_total_2 : decode prog_4_method_20_code 2 = .ok (.putfield 26, 3) := by decide +kernel
theorem d_M_total_5 : decode prog_4_method_20_code 5 = .ok (.iconst 0, 1) := by decide +kernel
theorem d_M_total_6 : decode prog_4_method_20_code 6 = .ok (.istore_n 1, 1) := by decide +kernel
theorem d_M_total_7 : decode prog_4_method_20_code 7 = .ok (.iconst 0, 1) := by decide +kernel
theorem d_M_total_8 : decode prog_4_method_20_code 8 = .ok (.istore_n 2, 1) := by decide +kernel
theorem d_M_total_9 : decode prog_4_method_20_code 9 = .ok (.iload_n 2, 1) := by decide +kernel
theorem d_M_total_10 : decode prog_4_method_20_code 10 = .ok (.iconst 2, 1) := by decide +kernel
theorem d_M_total_11 : decode prog_4_method_20_code 11 = .ok (.aload_n 0, 1) := by decide +kernel
theorem d_M_total_12 : decode prog_4_method_20_code 12 = .ok (.getfield 51, 3) := by decide +kernel
theorem d_M_total_15 : decode prog_4_method_20_code 15 = .ok (.imul, 1) := by decide +kernel
theorem d_M_total_16 : decode prog_4_method_20_code 16 = .ok (.if_icmp .gt 25, 3) := by decide +kernel
theorem d_M_total_19 : decode prog_4_method_20_code 19 = .ok (.aload_n 0, 1) := by decide +kernel
theorem d_M_total_20 : decode prog_4_method_20_code 20 = .ok (.iload_n 2, 1) := by decide +kernel
theorem d_M_total_21 : decode prog_4_method_20_code 21 = .ok (.invokevirtual 86, 3) := by decide +kernel
theorem d_M_total_24 : decode prog_4_method_20_code 24 = .ok (.iload_n 1, 1) := by decide +kernel
theorem d_M_total_25 : decode prog_4_method_20_code 25 = .ok (.iconst 2, 1) := by decide +kernel
theorem d_M_total_26 : decode prog_4_method_20_code 26 = .ok (.aload_n 0, 1) := by decide +kernel
theorem d_M_total_27 : decode prog_4_method_20_code 27 = .ok (.getfield 69, 3) := by decide +kernel
theorem d_M_total_30 : decode prog_4_method_20_code 30 = .ok (.imul, 1) := by decide +kernel
theorem d_M_total_31 : decode prog_4_method_20_code 31 = .ok (.iconst 1, 1) := by decide +kernel
theorem d_M_total_32 : decode prog_4_method_20_code 32 = .ok (.iadd, 1) := by decide +kernel
theorem d_M_total_33 : decode prog_4_method_20_code 33 = .ok (.iadd, 1) := by decide +kernel
theorem d_M_total_34 : decode prog_4_method_20_code 34 = .ok (.istore_n 1, 1) := by decide +kernel
theorem d_M_total_35 : decode prog_4_method_20_code 35 = .ok (.iinc 2 1, 3) := by decide +kernel
theorem d_M_total_38 : decode prog_4_method_20_code 38 = .ok (.goto (-29), 3) := by decide +kernel
theorem d_M_total_41 : decode prog_4_method_20_code 41 = .ok (.iload_n 1, 1) := by decide +kernel
theorem d_M_total_42 : decode prog_4_method_20_code 42 = .ok (.ireturn, 1) := by decide +kernel
theorem d_M_isCell_0 : decode prog_4_method_21_code 0 = .ok (.iload_n 1, 1) := by decide +kernel
theorem d_M_isCell_1 : decode prog_4_method_21_code 1 = .ok (.istore_n 2, 1) := by decide +kernel
theorem d_M_isCell_2 : decode prog_4_method_21_code 2 = .ok (.iconst 0, 1) := by decide +kernel
theorem d_M_isCell_3 : decode prog_4_method_21_code 3 = .ok (.istore_n 3, 1) := by decide +kernel
theorem d_M_isCell_4 : decode prog_4_method_21_code 4 = .ok (.iload_n 3, 1) := by decide +kernel
theorem d_M_isCell_5 : decode prog_4_method_21_code 5 = .ok (.iconst 2, 1) := by decide +kernel
theorem d_M_isCell_6 : decode prog_4_method_21_code 6 = .ok (.aload_n 0, 1) := by decide +kernel
theorem d_M_isCell_7 : decode prog_4_method_21_code 7 = .ok (.getfield 51, 3) := by decide +kernel
theorem d_M_isCell_10 : decode prog_4_method_21_code 10 = .ok (.imul, 1) := by decide +kernel
theorem d_M_isCell_11 : decode prog_4_method_21_code 11 = .ok (.if_icmp .gt 51, 3) := by decide +kernel
theorem d_M_isCell_14 : decode prog_4_method_21_code 14 = .ok (.iload_n 1, 1) := by decide +kernel
theorem d_M_isCell_15 : decode prog_4_method_21_code 15 = .ok (.ifCond .lt 47, 3) := by decide +kernel
theorem d_M_isCell_18 : decode prog_4_method_21_code 18 = .ok (.aload_n 0, 1) := by decide +kernel
theorem d_M_isCell_19 : decode prog_4_method_21_code 19 = .ok (.iload_n 3, 1) := by decide +kernel
theorem d_M_isCell_20 : decode prog_4_method_21_code 20 = .ok (.invokevirtual 86, 3) := by decide +kernel
theorem d_M_isCell_23 : decode prog_4_method_21_code 23 = .ok (.iload_n 2, 1) := by decide +kernel
theorem d_M_isCell_24 : decode prog_4_method_21_code 24 = .ok (.iconst 2, 1) := by decide +kernel
theorem d_M_isCell_25 : decode prog_4_method_21_code 25 = .ok (.aload_n 0, 1) := by decide +kernel
theorem d_M_isCell_26 : decode prog_4_method_21_code 26 = .ok (.getfield 69, 3) := by decide +kernel
theorem d_M_isCell_29 : decode prog_4_method_21_code 29 = .ok (.imul, 1) := by decide +kernel
theorem d_M_isCell_30 : decode prog_4_method_21_code 30 = .ok (.if_icmp .gt 15, 3) := by decide +kernel
theorem d_M_isCell_33 : decode prog_4_method_21_code 33 = .ok (.aload_n 0, 1) := by decide +kernel
theorem d_M_isCell_34 : decode prog_4_method_21_code 34 = .ok (.iload_n 3, 1) := by decide +kernel
theorem d_M_isCell_35 : decode prog_4_method_21_code 35 = .ok (.putfield 89, 3) := by decide +kernel
theorem d_M_isCell_38 : decode prog_4_method_21_code 38 = .ok (.aload_n 0, 1) := by decide +kernel
theorem d_M_isCell_39 : decode prog_4_method_21_code 39 = .ok (.iload_n 2, 1) := by decide +kernel
theorem d_M_isCell_40 : decode prog_4_method_21_code 40 = .ok (.putfield 92, 3) := by decide +kernel
theorem d_M_isCell_43 : decode prog_4_method_21_code 43 = .ok (.iconst 1, 1) := by decide +kernel
theorem d_M_isCell_44 : decode prog_4_method_21_code 44 = .ok (.ireturn, 1) := by decide +kernel
theorem d_M_isCell_45 : decode prog_4_method_21_code 45 = .ok (.iload_n 2, 1) := by decide +kernel
theorem d_M_isCell_46 : decode prog_4_method_21_code 46 = .ok (.iconst 2, 1) := by decide +kernel
theorem d_M_isCell_47 : decode prog_4_method_21_code 47 = .ok (.aload_n 0, 1) := by decide +kernel
theorem d_M_isCell_48 : decode prog_4_method_21_code 48 = .ok (.getfield 69, 3) := by decide +kernel
theorem d_M_isCell_51 : decode prog_4_method_21_code 51 = .ok (.imul, 1) := by decide +kernel
theorem d_M_isCell_52 : decode prog_4_method_21_code 52 = .ok (.iconst 1, 1) := by decide +kernel
theorem d_M_isCell_53 : decode prog_4_method_21_code 53 = .ok (.iadd, 1) := by decide +kernel
theorem d_M_isCell_54 : decode prog_4_method_21_code 54 = .ok (.isub, 1) := by decide +kernel
theorem d_M_isCell_55 : decode prog_4_method_21_code 55 = .ok (.istore_n 2, 1) := by decide +kernel
theorem d_M_isCell_56 : decode prog_4_method_21_code 56 = .ok (.iinc 3 1, 3) := by decide +kernel
theorem d_M_isCell_59 : decode prog_4_method_21_code 59 = .ok (.goto (-55), 3) := by decide +kernel
theorem d_M_isCell_62 : decode prog_4_method_21_code 62 = .ok (.iconst 0, 1) := by decide +kernel
theorem d_M_isCell_63 : decode prog_4_method_21_code 63 = .ok (.ireturn, 1) := by decide +kernel
theorem d_M_cell_0 : decode prog_4_method_22_code 0 = .ok (.aload_n 0, 1) := by decide +kernel
theorem d_M_cell_1 : decode prog_4_method_22_code 1 = .ok (.aload_n 0, 1) := by decide +kernel
theorem d_M_cell_2 : decode prog_4_method_22_code 2 = .ok (.iload_n 1, 1) := by decide +kernel
theorem d_M_cell_3 : decode prog_4_method_22_code 3 = .ok (.invokevirtual 95, 3) := by decide +kernel
theorem d_M_cell_6 : decode prog_4_method_22_code 6 = .ok (.ifCond .ne 7, 3) := by decide +kernel
theorem d_M_cell_9 : decode prog_4_method_22_code 9 = .ok (.iconst 1, 1) := by decide +kernel
theorem d_M_cell_10 : decode prog_4_method_22_code 10 = .ok (.goto 20, 3) := by decide +kernel
theorem d_M_cell_13 : decode prog_4_method_22_code 13 = .ok (.iload_n 2, 1) := by decide +kernel
theorem d_M_cell_14 : decode prog_4_method_22_code 14 = .ok (.i2l, 1) := by decide +kernel
theorem d_M_cell_15 : decode prog_4_method_22_code 15 = .ok (.lconst 0, 1) := by decide +kernel
theorem d_M_cell_16 : decode prog_4_method_22_code 16 = .ok (.ldc2_w 61, 3) := by decide +kernel
theorem d_M_cell_19 : decode prog_4_method_22_code 19 = .ok (.invokestatic 41, 3) := by decide +kernel
theorem d_M_cell_22 : decode prog_4_method_22_code 22 = .ok (.ifCond .eq 7, 3) := by decide +kernel
theorem d_M_cell_25 : decode prog_4_method_22_code 25 = .ok (.iconst 0, 1) := by decide +kernel
theorem d_M_cell_26 : decode prog_4_method_22_code 26 = .ok (.goto 4, 3) := by decide +kernel
theorem d_M_cell_29 : decode prog_4_method_22_code 29 = .ok (.iconst 2, 1) := by decide +kernel
theorem d_M_cell_30 : decode prog_4_method_22_code 30 = .ok (.putfield 26, 3) := by decide +kernel
theorem d_M_cell_33 : decode prog_4_method_22_code 33 = .ok (.aload_n 0, 1) := by decide +kernel
theorem d_M_cell_34 : decode prog_4_method_22_code 34 = .ok (.getfield 26, 3) := by decide +kernel
theorem d_M_cell_37 : decode prog_4_method_22_code 37 = .ok (.ifCond .le 5, 3) := by decide +kernel
theorem d_M_cell_40 : decode prog_4_method_22_code 40 = .ok (.iconst 0, 1) := by decide +kernel
theorem d_M_cell_41 : decode prog_4_method_22_code 41 = .ok (.ireturn, 1) := by decide +kernel
theorem d_M_cell_42 : decode prog_4_method_22_code 42 = .ok (.iload_n 2, 1) := by decide +kernel
theorem d_M_cell_43 : decode prog_4_method_22_code 43 = .ok (.ifCond .ne 10, 3) := by decide +kernel
theorem d_M_cell_46 : decode prog_4_method_22_code 46 = .ok (.aload_n 0, 1) := by decide +kernel
theorem d_M_cell_47 : decode prog_4_method_22_code 47 = .ok (.getfield 89, 3) := by decide +kernel
theorem d_M_cell_50 : decode prog_4_method_22_code 50 = .ok (.goto 30, 3) := by decide +kernel
theorem d_M_cell_53 : decode prog_4_method_22_code 53 = .ok (.iload_n 2, 1) := by decide +kernel
theorem d_M_cell_54 : decode prog_4_method_22_code 54 = .ok (.iconst 1, 1) := by decide +kernel
theorem d_M_cell_55 : decode prog_4_method_22_code 55 = .ok (.if_icmp .ne 10, 3) := by decide +kernel
theorem d_M_cell_58 : decode prog_4_method_22_code 58 = .ok (.aload_n 0, 1) := by decide +kernel
theorem d_M_cell_59 : decode prog_4_method_22_code 59 = .ok (.getfield 92, 3) := by decide +kernel
theorem d_M_cell_62 : decode prog_4_method_22_code 62 = .ok (.goto 18, 3) := by decide +kernel
theorem d_M_cell_65 : decode prog_4_method_22_code 65 = .ok (.iconst 2, 1) := by decide +kernel
theorem d_M_cell_66 : decode prog_4_method_22_code 66 = .ok (.aload_n 0, 1) := by decide +kernel
theorem d_M_cell_67 : decode prog_4_method_22_code 67 = .ok (.getfield 89, 3) := by decide +kernel
theorem d_M_cell_70 : decode prog_4_method_22_code 70 = .ok (.iconst 2, 1) := by decide +kernel
theorem d_M_cell_71 : decode prog_4_method_22_code 71 = .ok (.irem, 1) := by decide +kernel
theorem d_M_cell_72 : decode prog_4_method_22_code 72 = .ok (.isub, 1) := by decide +kernel
theorem d_M_cell_73 : decode prog_4_method_22_code 73 = .ok (.aload_n 0, 1) := by decide +kernel
theorem d_M_cell_74 : decode prog_4_method_22_code 74 = .ok (.getfield 92, 3) := by decide +kernel
theorem d_M_cell_77 : decode prog_4_method_22_code 77 = .ok (.iconst 2, 1) := by decide +kernel
theorem d_M_cell_78 : decode prog_4_method_22_code 78 = .ok (.irem, 1) := by decide +kernel
theorem d_M_cell_79 : decode prog_4_method_22_code 79 = .ok (.isub, 1) := by decide +kernel
theorem d_M_cell_80 : decode prog_4_method_22_code 80 = .ok (.ireturn, 1) := by decide +kernel
theorem d_M_sampleY_0 : decode prog_4_method_23_code 0 = .ok (.aload_n 0, 1) := by decide +kernel
theorem d_M_sampleY_1 : decode prog_4_method_23_code 1 = .ok (.getfield 92, 3) := by decide +kernel
theorem d_M_sampleY_4 : decode prog_4_method_23_code 4 = .ok (.iconst 2, 1) := by decide +kernel
theorem d_M_sampleY_5 : decode prog_4_method_23_code 5 = .ok (.idiv, 1) := by decide +kernel
theorem d_M_sampleY_6 : decode prog_4_method_23_code 6 = .ok (.istore_n 1, 1) := by decide +kernel
theorem d_M_sampleY_7 : decode prog_4_method_23_code 7 = .ok (.aload_n 0, 1) := by decide +kernel
theorem d_M_sampleY_8 : decode prog_4_method_23_code 8 = .ok (.getfield 69, 3) := by decide +kernel
theorem d_M_sampleY_11 : decode prog_4_method_23_code 11 = .ok (.ifCond .ne 12, 3) := by decide +kernel
theorem d_M_sampleY_14 : decode prog_4_method_23_code 14 = .ok (.aload_n 0, 1) := by decide +kernel
theorem d_M_sampleY_15 : decode prog_4_method_23_code 15 = .ok (.lconst 0, 1) := by decide +kernel
theorem d_M_sampleY_16 : decode prog_4_method_23_code 16 = .ok (.lconst 1, 1) := by decide +kernel
theorem d_M_sampleY_17 : decode prog_4_method_23_code 17 = .ok (.invokevirtual 54, 3) := by decide +kernel
theorem d_M_sampleY_20 : decode prog_4_method_23_code 20 = .ok (.goto 159, 3) := by decide +kernel
theorem d_M_sampleY_23 : decode prog_4_method_23_code 23 = .ok (.aload_n 0, 1) := by decide +kernel
theorem d_M_sampleY_24 : decode prog_4_method_23_code 24 = .ok (.getfield 92, 3) := by decide +kernel
theorem d_M_sampleY_27 : decode prog_4_method_23_code 27 = .ok (.iconst 2, 1) := by decide +kernel
theorem d_M_sampleY_28 : decode prog_4_method_23_code 28 = .ok (.irem, 1) := by decide +kernel
theorem d_M_sampleY_29 : decode prog_4_method_23_code 29 = .ok (.iconst 1, 1) := by decide +kernel
theorem d_M_sampleY_30 : decode prog_4_method_23_code 30 = .ok (.if_icmp .ne 22, 3) := by decide +kernel
theorem d_M_sampleY_33 : decode prog_4_method_23_code 33 = .ok (.aload_n 0, 1) := by decide +kernel
theorem d_M_sampleY_34 : decode prog_4_method_23_code 34 = .ok (.aload_n 0, 1) := by decide +kernel
theorem d_M_sampleY_35 : decode prog_4_method_23_code 35 = .ok (.getfield 20, 3) := by decide +kernel
theorem d_M_sampleY_38 : decode prog_4_method_23_code 38 = .ok (.iload_n 1, 1) := by decide +kernel
theorem d_M_sampleY_39 : decode prog_4_method_23_code 39 = .ok (.laload, 1) := by decide +kernel
theorem d_M_sampleY_40 : decode prog_4_method_23_code 40 = .ok (.aload_n 0, 1) := by decide +kernel
theorem d_M_sampleY_41 : decode prog_4_method_23_code 41 = .ok (.getfield 23, 3) := by decide +kernel
theorem d_M_sampleY_44 : decode prog_4_method_23_code 44 = .ok (.iload_n 1, 1) := by decide +kernel
theorem d_M_sampleY_45 : decode prog_4_method_23_code 45 = .ok (.laload, 1) := by decide +kernel
theorem d_M_sampleY_46 : decode prog_4_method_23_code 46 = .ok (.invokevirtual 54, 3) := by decide +kernel
theorem d_M_sampleY_49 : decode prog_4_method_23_code 49 = .ok (.goto 130, 3) := by decide +kernel
theorem d_M_sampleY_52 : decode prog_4_method_23_code 52 = .ok (.aload_n 0, 1) := by decide +kernel
theorem d_M_sampleY_53 : decode prog_4_method_23_code 53 = .ok (.getfield 92, 3) := by decide +kernel
theorem d_M_sampleY_56 : decode prog_4_method_23_code 56 = .ok (.ifCond .ne 29, 3) := by decide +kernel
theorem d_M_sampleY_59 : decode prog_4_method_23_code 59 = .ok (.aload_n 0, 1) := by decide +kernel
theorem d_M_sampleY_60 : decode prog_4_method_23_code 60 = .ok (.aload_n 0, 1) := by decide +kernel
theorem d_M_sampleY_61 : decode prog_4_method_23_code 61 = .ok (.getfield 20, 3) := by decide +kernel
theorem d_M_sampleY_64 : decode prog_4_method_23_code 64 = .ok (.iconst 0, 1) := by decide +kernel
theorem d_M_sampleY_65 : decode prog_4_method_23_code 65 = .ok (.laload, 1) := by decide +kernel
theorem d_M_sampleY_66 : decode prog_4_method_23_code 66 = .ok (.aload_n 0, 1) := by decide +kernel
theorem d_M_sampleY_67 : decode prog_4_method_23_code 67 = .ok (.getfield 23, 3) := by decide +kernel
theorem d_M_sampleY_70 : decode prog_4_method_23_code 70 = .ok (.iconst 0, 1) := by decide +kernel
theorem d_M_sampleY_71 : decode prog_4_method_23_code 71 = .ok (.laload, 1) := by decide +kernel
theorem d_M_sampleY_72 : decode prog_4_method_23_code 72 = .ok (.lsub, 1) := by decide +kernel
theorem d_M_sampleY_73 : decode prog_4_method_23_code 73 = .ok (.aload_n 0, 1) := by decide +kernel
theorem d_M_sampleY_74 : decode prog_4_method_23_code 74 = .ok (.getfield 23, 3) := by decide +kernel
theorem d_M_sampleY_77 : decode prog_4_method_23_code 77 = .ok (.iconst 0, 1) := by decide +kernel
theorem d_M_sampleY_78 : decode prog_4_method_23_code 78 = .ok (.laload, 1) := by decide +kernel
theorem d_M_sampleY_79 : decode prog_4_method_23_code 79 = .ok (.invokevirtual 54, 3) := by decide +kernel
theorem d_M_sampleY_82 : decode prog_4_method_23_code 82 = .ok (.goto 97, 3) := by decide +kernel
theorem d_M_sampleY_85 : decode prog_4_method_23_code 85 = .ok (.iload_n 1, 1) := by decide +kernel
theorem d_M_sampleY_86 : decode prog_4_method_23_code 86 = .ok (.aload_n 0, 1) := by decide +kernel
theorem d_M_sampleY_87 : decode prog_4_method_23_code 87 = .ok (.getfield 69, 3) := by decide +kernel
theorem d_M_sampleY_90 : decode prog_4_method_23_code 90 = .ok (.if_icmp .ne 35, 3) := by decide +kernel
theorem d_M_sampleY_93 : decode prog_4_method_23_code 93 = .ok (.aload_n 0, 1) := by decide +kernel
theorem d_M_sampleY_94 : decode prog_4_method_23_code 94 = .ok (.aload_n 0, 1) := by decide +kernel
theorem d_M_sampleY_95 : decode prog_4_method_23_code 95 = .ok (.getfield 20, 3) := by decide +kernel
theorem d_M_sampleY_98 : decode prog_4_method_23_code 98 = .ok (.iload_n 1, 1) := by decide +kernel
theorem d_M_sampleY_99 : decode prog_4_method_23_code 99 = .ok (.iconst 1, 1) := by decide +kernel
theorem d_M_sampleY_100 : decode prog_4_method_23_code 100 = .ok (.isub, 1) := by decide +kernel
theorem d_M_sampleY_101 : decode prog_4_method_23_code 101 = .ok (.laload, 1) := by decide +kernel
theorem d_M_sampleY_102 : decode prog_4_method_23_code 102 = .ok (.aload_n 0, 1) := by decide +kernel
theorem d_M_sampleY_103 : decode prog_4_method_23_code 103 = .ok (.getfield 23, 3) := by decide +kernel
theorem d_M_sampleY_106 : decode prog_4_method_23_code 106 = .ok (.iload_n 1, 1) := by decide +kernel
theorem d_M_sampleY_107 : decode prog_4_method_23_code 107 = .ok (.iconst 1, 1) := by decide +kernel
theorem d_M_sampleY_108 : decode prog_4_method_23_code 108 = .ok (.isub, 1) := by decide +kernel
theorem d_M_sampleY_109 : decode prog_4_method_23_code 109 = .ok (.laload, 1) := by decide +kernel
theorem d_M_sampleY_110 : decode prog_4_method_23_code 110 = .ok (.ladd, 1) := by decide +kernel
theorem d_M_sampleY_111 : decode prog_4_method_23_code 111 = .ok (.aload_n 0, 1) := by decide +kernel
theorem d_M_sampleY_112 : decode prog_4_method_23_code 112 = .ok (.getfield 23, 3) := by decide +kernel
theorem d_M_sampleY_115 : decode prog_4_method_23_code 115 = .ok (.iload_n 1, 1) := by decide +kernel
theorem d_M_sampleY_116 : decode prog_4_method_23_code 116 = .ok (.iconst 1, 1) := by decide +kernel
theorem d_M_sampleY_117 : decode prog_4_method_23_code 117 = .ok (.isub, 1) := by decide +kernel
theorem d_M_sampleY_118 : decode prog_4_method_23_code 118 = .ok (.laload, 1) := by decide +kernel
theorem d_M_sampleY_119 : decode prog_4_method_23_code 119 = .ok (.invokevirtual 54, 3) := by decide +kernel
theorem d_M_sampleY_122 : decode prog_4_method_23_code 122 = .ok (.goto 57, 3) := by decide +kernel
theorem d_M_sampleY_125 : decode prog_4_method_23_code 125 = .ok (.aload_n 0, 1) := by decide +kernel
theorem d_M_sampleY_126 : decode prog_4_method_23_code 126 = .ok (.aload_n 0, 1) := by decide +kernel
theorem d_M_sampleY_127 : decode prog_4_method_23_code 127 = .ok (.getfield 20, 3) := by decide +kernel
theorem d_M_sampleY_130 : decode prog_4_method_23_code 130 = .ok (.iload_n 1, 1) := by decide +kernel
theorem d_M_sampleY_131 : decode prog_4_method_23_code 131 = .ok (.iconst 1, 1) := by decide +kernel
theorem d_M_sampleY_132 : decode prog_4_method_23_code 132 = .ok (.isub, 1) := by decide +kernel
theorem d_M_sampleY_133 : decode prog_4_method_23_code 133 = .ok (.laload, 1) := by decide +kernel
theorem d_M_sampleY_134 : decode prog_4_method_23_code 134 = .ok (.aload_n 0, 1) := by decide +kernel
theorem d_M_sampleY_135 : decode prog_4_method_23_code 135 = .ok (.getfield 23, 3) := by decide +kernel
theorem d_M_sampleY_138 : decode prog_4_method_23_code 138 = .ok (.iload_n 1, 1) := by decide +kernel
theorem d_M_sampleY_139 : decode prog_4_method_23_code 139 = .ok (.laload, 1) := by decide +kernel
theorem d_M_sampleY_140 : decode prog_4_method_23_code 140 = .ok (.lmul, 1) := by decide +kernel
theorem d_M_sampleY_141 : decode prog_4_method_23_code 141 = .ok (.aload_n 0, 1) := by decide +kernel
theorem d_M_sampleY_142 : decode prog_4_method_23_code 142 = .ok (.getfield 20, 3) := by decide +kernel
theorem d_M_sampleY_145 : decode prog_4_method_23_code 145 = .ok (.iload_n 1, 1) := by decide +kernel
theorem d_M_sampleY_146 : decode prog_4_method_23_code 146 = .ok (.laload, 1) := by decide +kernel
theorem d_M_sampleY_147 : decode prog_4_method_23_code 147 = .ok (.aload_n 0, 1) := by decide +kernel
theorem d_M_sampleY_148 : decode prog_4_method_23_code 148 = .ok (.getfield 23, 3) := by decide +kernel
theorem d_M_sampleY_151 : decode prog_4_method_23_code 151 = .ok (.iload_n 1, 1) := by decide +kernel
theorem d_M_sampleY_152 : decode prog_4_method_23_code 152 = .ok (.iconst 1, 1) := by decide +kernel
theorem d_M_sampleY_153 : decode prog_4_method_23_code 153 = .ok (.isub, 1) := by decide +kernel
theorem d_M_sampleY_154 : decode prog_4_method_23_code 154 = .ok (.laload, 1) := by decide +kernel
theorem d_M_sampleY_155 : decode prog_4_method_23_code 155 = .ok (.lmul, 1) := by decide +kernel
theorem d_M_sampleY_156 : decode prog_4_method_23_code 156 = .ok (.ladd, 1) := by decide +kernel
theorem d_M_sampleY_157 : decode prog_4_method_23_code 157 = .ok (.ldc2_w 61, 3) := by decide +kernel
theorem d_M_sampleY_160 : decode prog_4_method_23_code 160 = .ok (.aload_n 0, 1) := by decide +kernel
theorem d_M_sampleY_161 : decode prog_4_method_23_code 161 = .ok (.getfield 23, 3) := by decide +kernel
theorem d_M_sampleY_164 : decode prog_4_method_23_code 164 = .ok (.iload_n 1, 1) := by decide +kernel
theorem d_M_sampleY_165 : decode prog_4_method_23_code 165 = .ok (.iconst 1, 1) := by decide +kernel
theorem d_M_sampleY_166 : decode prog_4_method_23_code 166 = .ok (.isub, 1) := by decide +kernel
theorem d_M_sampleY_167 : decode prog_4_method_23_code 167 = .ok (.laload, 1) := by decide +kernel
theorem d_M_sampleY_168 : decode prog_4_method_23_code 168 = .ok (.lmul, 1) := by decide +kernel
theorem d_M_sampleY_169 : decode prog_4_method_23_code 169 = .ok (.aload_n 0, 1) := by decide +kernel
theorem d_M_sampleY_170 : decode prog_4_method_23_code 170 = .ok (.getfield 23, 3) := by decide +kernel
theorem d_M_sampleY_173 : decode prog_4_method_23_code 173 = .ok (.iload_n 1, 1) := by decide +kernel
theorem d_M_sampleY_174 : decode prog_4_method_23_code 174 = .ok (.laload, 1) := by decide +kernel
theorem d_M_sampleY_175 : decode prog_4_method_23_code 175 = .ok (.lmul, 1) := by decide +kernel
theorem d_M_sampleY_176 : decode prog_4_method_23_code 176 = .ok (.invokevirtual 54, 3) := by decide +kernel
theorem d_M_sampleY_179 : decode prog_4_method_23_code 179 = .ok (.return_, 1) := by decide +kernel
theorem d_M_sample_0 : decode prog_4_method_24_code 0 = .ok (.aload_n 0, 1) := by decide +kernel
theorem d_M_sample_1 : decode prog_4_method_24_code 1 = .ok (.aload_n 0, 1) := by decide +kernel
theorem d_M_sample_2 : decode prog_4_method_24_code 2 = .ok (.iload_n 1, 1) := by decide +kernel
theorem d_M_sample_3 : decode prog_4_method_24_code 3 = .ok (.invokevirtual 95, 3) := by decide +kernel
theorem d_M_sample_6 : decode prog_4_method_24_code 6 = .ok (.ifCond .ne 7, 3) := by decide +kernel
theorem d_M_sample_9 : decode prog_4_method_24_code 9 = .ok (.iconst 1, 1) := by decide +kernel
theorem d_M_sample_10 : decode prog_4_method_24_code 10 = .ok (.goto 28, 3) := by decide +kernel
theorem d_M_sample_13 : decode prog_4_method_24_code 13 = .ok (.iload_n 2, 1) := by decide +kernel
theorem d_M_sample_14 : decode prog_4_method_24_code 14 = .ok (.i2l, 1) := by decide +kernel
theorem d_M_sample_15 : decode prog_4_method_24_code 15 = .ok (.lconst 0, 1) := by decide +kernel
theorem d_M_sample_16 : decode prog_4_method_24_code 16 = .ok (.lconst 1, 1) := by decide +kernel
theorem d_M_sample_17 : decode prog_4_method_24_code 17 = .ok (.invokestatic 41, 3) := by decide +kernel
theorem d_M_sample_20 : decode prog_4_method_24_code 20 = .ok (.ifCond .eq 17, 3) := by decide +kernel
theorem d_M_sample_23 : decode prog_4_method_24_code 23 = .ok (.iload_n 3, 1) := by decide +kernel
theorem d_M_sample_24 : decode prog_4_method_24_code 24 = .ok (.i2l, 1) := by decide +kernel
theorem d_M_sample_25 : decode prog_4_method_24_code 25 = .ok (.lconst 0, 1) := by decide +kernel
theorem d_M_sample_26 : decode prog_4_method_24_code 26 = .ok (.lconst 1, 1) := by decide +kernel
theorem d_M_sample_27 : decode prog_4_method_24_code 27 = .ok (.invokestatic 41, 3) := by decide +kernel
theorem d_M_sample_30 : decode prog_4_method_24_code 30 = .ok (.ifCond .eq 7, 3) := by decide +kernel
theorem d_M_sample_33 : decode prog_4_method_24_code 33 = .ok (.iconst 0, 1) := by decide +kernel
theorem d_M_sample_34 : decode prog_4_method_24_code 34 = .ok (.goto 4, 3) := by decide +kernel
theorem d_M_sample_37 : decode prog_4_method_24_code 37 = .ok (.iconst 2, 1) := by decide +kernel
theorem d_M_sample_38 : decode prog_4_method_24_code 38 = .ok (.putfield 26, 3) := by decide +kernel
theorem d_M_sample_41 : decode prog_4_method_24_code 41 = .ok (.aload_n 0, 1) := by decide +kernel
theorem d_M_sample_42 : decode prog_4_method_24_code 42 = .ok (.getfield 26, 3) := by decide +kernel
theorem d_M_sample_45 : decode prog_4_method_24_code 45 = .ok (.ifCond .le 5, 3) := by decide +kernel
theorem d_M_sample_48 : decode prog_4_method_24_code 48 = .ok (.lconst 0, 1) := by decide +kernel
theorem d_M_sample_49 : decode prog_4_method_24_code 49 = .ok (.lreturn, 1) := by decide +kernel
theorem d_M_sample_50 : decode prog_4_method_24_code 50 = .ok (.iload_n 2, 1) := by decide +kernel
theorem d_M_sample_51 : decode prog_4_method_24_code 51 = .ok (.ifCond .ne 18, 3) := by decide +kernel
theorem d_M_sample_54 : decode prog_4_method_24_code 54 = .ok (.aload_n 0, 1) := by decide +kernel
theorem d_M_sample_55 : decode prog_4_method_24_code 55 = .ok (.aload_n 0, 1) := by decide +kernel
theorem d_M_sample_56 : decode prog_4_method_24_code 56 = .ok (.getfield 63, 3) := by decide +kernel
theorem d_M_sample_59 : decode prog_4_method_24_code 59 = .ok (.aload_n 0, 1) := by decide +kernel
theorem d_M_sample_60 : decode prog_4_method_24_code 60 = .ok (.getfield 66, 3) := by decide +kernel
theorem d_M_sample_63 : decode prog_4_method_24_code 63 = .ok (.invokevirtual 54, 3) := by decide +kernel
theorem d_M_sample_66 : decode prog_4_method_24_code 66 = .ok (.goto 7, 3) := by decide +kernel
theorem d_M_sample_69 : decode prog_4_method_24_code 69 = .ok (.aload_n 0, 1) := by decide +kernel
theorem d_M_sample_70 : decode prog_4_method_24_code 70 = .ok (.invokevirtual 99, 3) := by decide +kernel
theorem d_M_sample_73 : decode prog_4_method_24_code 73 = .ok (.aload_n 0, 1) := by decide +kernel
theorem d_M_sample_74 : decode prog_4_method_24_code 74 = .ok (.iload_n 3, 1) := by decide +kernel
theorem d_M_sample_75 : decode prog_4_method_24_code 75 = .ok (.invokevirtual 102, 3) := by decide +kernel
theorem d_M_sample_78 : decode prog_4_method_24_code 78 = .ok (.lreturn, 1) := by decide +kernel
theorem d_M_signAt_0 : decode prog_4_method_25_code 0 = .ok (.aload_n 0, 1) := by decide +kernel
theorem d_M_signAt_1 : decode prog_4_method_25_code 1 = .ok (.getfield 7, 3) := by decide +kernel
theorem d_M_signAt_4 : decode prog_4_method_25_code 4 = .ok (.iconst 3, 1) := by decide +kernel
theorem d_M_signAt_5 : decode prog_4_method_25_code 5 = .ok (.iload_n 1, 1) := by decide +kernel
theorem d_M_signAt_6 : decode prog_4_method_25_code 6 = .ok (.imul, 1) := by decide +kernel
theorem d_M_signAt_7 : decode prog_4_method_25_code 7 = .ok (.iaload, 1) := by decide +kernel
theorem d_M_signAt_8 : decode prog_4_method_25_code 8 = .ok (.i2l, 1) := by decide +kernel
theorem d_M_signAt_9 : decode prog_4_method_25_code 9 = .ok (.aload_n 0, 1) := by decide +kernel
theorem d_M_signAt_10 : decode prog_4_method_25_code 10 = .ok (.getfield 63, 3) := by decide +kernel
theorem d_M_signAt_13 : decode prog_4_method_25_code 13 = .ok (.lmul, 1) := by decide +kernel
theorem d_M_signAt_14 : decode prog_4_method_25_code 14 = .ok (.aload_n 0, 1) := by decide +kernel
theorem d_M_signAt_15 : decode prog_4_method_25_code 15 = .ok (.getfield 34, 3) := by decide +kernel
theorem d_M_signAt_18 : decode prog_4_method_25_code 18 = .ok (.lmul, 1) := by decide +kernel
theorem d_M_signAt_19 : decode prog_4_method_25_code 19 = .ok (.aload_n 0, 1) := by decide +kernel
theorem d_M_signAt_20 : decode prog_4_method_25_code 20 = .ok (.getfield 7, 3) := by decide +kernel
theorem d_M_signAt_23 : decode prog_4_method_25_code 23 = .ok (.iconst 3, 1) := by decide +kernel
theorem d_M_signAt_24 : decode prog_4_method_25_code 24 = .ok (.iload_n 1, 1) := by decide +kernel
theorem d_M_signAt_25 : decode prog_4_method_25_code 25 = .ok (.imul, 1) := by decide +kernel
theorem d_M_signAt_26 : decode prog_4_method_25_code 26 = .ok (.iconst 1, 1) := by decide +kernel
theorem d_M_signAt_27 : decode prog_4_method_25_code 27 = .ok (.iadd, 1) := by decide +kernel
theorem d_M_signAt_28 : decode prog_4_method_25_code 28 = .ok (.iaload, 1) := by decide +kernel
theorem d_M_signAt_29 : decode prog_4_method_25_code 29 = .ok (.i2l, 1) := by decide +kernel
theorem d_M_signAt_30 : decode prog_4_method_25_code 30 = .ok (.aload_n 0, 1) := by decide +kernel
theorem d_M_signAt_31 : decode prog_4_method_25_code 31 = .ok (.getfield 30, 3) := by decide +kernel
theorem d_M_signAt_34 : decode prog_4_method_25_code 34 = .ok (.lmul, 1) := by decide +kernel
theorem d_M_signAt_35 : decode prog_4_method_25_code 35 = .ok (.aload_n 0, 1) := by decide +kernel
theorem d_M_signAt_36 : decode prog_4_method_25_code 36 = .ok (.getfield 66, 3) := by decide +kernel
theorem d_M_signAt_39 : decode prog_4_method_25_code 39 = .ok (.lmul, 1) := by decide +kernel
theorem d_M_signAt_40 : decode prog_4_method_25_code 40 = .ok (.ladd, 1) := by decide +kernel
theorem d_M_signAt_41 : decode prog_4_method_25_code 41 = .ok (.aload_n 0, 1) := by decide +kernel
theorem d_M_signAt_42 : decode prog_4_method_25_code 42 = .ok (.getfield 7, 3) := by decide +kernel
theorem d_M_signAt_45 : decode prog_4_method_25_code 45 = .ok (.iconst 3, 1) := by decide +kernel
theorem d_M_signAt_46 : decode prog_4_method_25_code 46 = .ok (.iload_n 1, 1) := by decide +kernel
theorem d_M_signAt_47 : decode prog_4_method_25_code 47 = .ok (.imul, 1) := by decide +kernel
theorem d_M_signAt_48 : decode prog_4_method_25_code 48 = .ok (.iconst 2, 1) := by decide +kernel
theorem d_M_signAt_49 : decode prog_4_method_25_code 49 = .ok (.iadd, 1) := by decide +kernel
theorem d_M_signAt_50 : decode prog_4_method_25_code 50 = .ok (.iaload, 1) := by decide +kernel
theorem d_M_signAt_51 : decode prog_4_method_25_code 51 = .ok (.i2l, 1) := by decide +kernel
theorem d_M_signAt_52 : decode prog_4_method_25_code 52 = .ok (.aload_n 0, 1) := by decide +kernel
theorem d_M_signAt_53 : decode prog_4_method_25_code 53 = .ok (.getfield 66, 3) := by decide +kernel
theorem d_M_signAt_56 : decode prog_4_method_25_code 56 = .ok (.lmul, 1) := by decide +kernel
theorem d_M_signAt_57 : decode prog_4_method_25_code 57 = .ok (.aload_n 0, 1) := by decide +kernel
theorem d_M_signAt_58 : decode prog_4_method_25_code 58 = .ok (.getfield 34, 3) := by decide +kernel
theorem d_M_signAt_61 : decode prog_4_method_25_code 61 = .ok (.lmul, 1) := by decide +kernel
theorem d_M_signAt_62 : decode prog_4_method_25_code 62 = .ok (.ladd, 1) := by decide +kernel
theorem d_M_signAt_63 : decode prog_4_method_25_code 63 = .ok (.lstore_n 2, 1) := by decide +kernel
theorem d_M_signAt_64 : decode prog_4_method_25_code 64 = .ok (.lload_n 2, 1) := by decide +kernel
theorem d_M_signAt_65 : decode prog_4_method_25_code 65 = .ok (.lconst 0, 1) := by decide +kernel
theorem d_M_signAt_66 : decode prog_4_method_25_code 66 = .ok (.lcmp, 1) := by decide +kernel
theorem d_M_signAt_67 : decode prog_4_method_25_code 67 = .ok (.ifCond .le 7, 3) := by decide +kernel
theorem d_M_signAt_70 : decode prog_4_method_25_code 70 = .ok (.iconst 1, 1) := by decide +kernel
theorem d_M_signAt_71 : decode prog_4_method_25_code 71 = .ok (.goto 14, 3) := by decide +kernel
theorem d_M_signAt_74 : decode prog_4_method_25_code 74 = .ok (.lload_n 2, 1) := by decide +kernel
theorem d_M_signAt_75 : decode prog_4_method_25_code 75 = .ok (.lconst 0, 1) := by decide +kernel
theorem d_M_signAt_76 : decode prog_4_method_25_code 76 = .ok (.lcmp, 1) := by decide +kernel
theorem d_M_signAt_77 : decode prog_4_method_25_code 77 = .ok (.ifCond .ge 7, 3) := by decide +kernel
theorem d_M_signAt_80 : decode prog_4_method_25_code 80 = .ok (.iconst (-1), 1) := by decide +kernel
theorem d_M_signAt_81 : decode prog_4_method_25_code 81 = .ok (.goto 4, 3) := by decide +kernel
theorem d_M_signAt_84 : decode prog_4_method_25_code 84 = .ok (.iconst 0, 1) := by decide +kernel
theorem d_M_signAt_85 : decode prog_4_method_25_code 85 = .ok (.ireturn, 1) := by decide +kernel
theorem d_M_sign_0 : decode prog_4_method_26_code 0 = .ok (.aload_n 0, 1) := by decide +kernel
theorem d_M_sign_1 : decode prog_4_method_26_code 1 = .ok (.aload_n 0, 1) := by decide +kernel
theorem d_M_sign_2 : decode prog_4_method_26_code 2 = .ok (.iload_n 1, 1) := by decide +kernel
theorem d_M_sign_3 : decode prog_4_method_26_code 3 = .ok (.invokevirtual 95, 3) := by decide +kernel
theorem d_M_sign_6 : decode prog_4_method_26_code 6 = .ok (.ifCond .eq 23, 3) := by decide +kernel
theorem d_M_sign_9 : decode prog_4_method_26_code 9 = .ok (.iload_n 2, 1) := by decide +kernel
theorem d_M_sign_10 : decode prog_4_method_26_code 10 = .ok (.i2l, 1) := by decide +kernel
theorem d_M_sign_11 : decode prog_4_method_26_code 11 = .ok (.lconst 0, 1) := by decide +kernel
theorem d_M_sign_12 : decode prog_4_method_26_code 12 = .ok (.aload_n 0, 1) := by decide +kernel
theorem d_M_sign_13 : decode prog_4_method_26_code 13 = .ok (.getfield 45, 3) := by decide +kernel
theorem d_M_sign_16 : decode prog_4_method_26_code 16 = .ok (.iconst 1, 1) := by decide +kernel
theorem d_M_sign_17 : decode prog_4_method_26_code 17 = .ok (.isub, 1) := by decide +kernel
theorem d_M_sign_18 : decode prog_4_method_26_code 18 = .ok (.i2l, 1) := by decide +kernel
theorem d_M_sign_19 : decode prog_4_method_26_code 19 = .ok (.invokestatic 41, 3) := by decide +kernel
theorem d_M_sign_22 : decode prog_4_method_26_code 22 = .ok (.ifCond .eq 7, 3) := by decide +kernel
theorem d_M_sign_25 : decode prog_4_method_26_code 25 = .ok (.iconst 0, 1) := by decide +kernel
theorem d_M_sign_26 : decode prog_4_method_26_code 26 = .ok (.goto 4, 3) := by decide +kernel
theorem d_M_sign_29 : decode prog_4_method_26_code 29 = .ok (.iconst 1, 1) := by decide +kernel
theorem d_M_sign_30 : decode prog_4_method_26_code 30 = .ok (.putfield 26, 3) := by decide +kernel
theorem d_M_sign_33 : decode prog_4_method_26_code 33 = .ok (.aload_n 0, 1) := by decide +kernel
theorem d_M_sign_34 : decode prog_4_method_26_code 34 = .ok (.getfield 26, 3) := by decide +kernel
theorem d_M_sign_37 : decode prog_4_method_26_code 37 = .ok (.ifCond .le 5, 3) := by decide +kernel
theorem d_M_sign_40 : decode prog_4_method_26_code 40 = .ok (.iconst 0, 1) := by decide +kernel
theorem d_M_sign_41 : decode prog_4_method_26_code 41 = .ok (.ireturn, 1) := by decide +kernel
theorem d_M_sign_42 : decode prog_4_method_26_code 42 = .ok (.aload_n 0, 1) := by decide +kernel
theorem d_M_sign_43 : decode prog_4_method_26_code 43 = .ok (.invokevirtual 99, 3) := by decide +kernel
theorem d_M_sign_46 : decode prog_4_method_26_code 46 = .ok (.aload_n 0, 1) := by decide +kernel
theorem d_M_sign_47 : decode prog_4_method_26_code 47 = .ok (.iload_n 2, 1) := by decide +kernel
theorem d_M_sign_48 : decode prog_4_method_26_code 48 = .ok (.invokevirtual 106, 3) := by decide +kernel
theorem d_M_sign_51 : decode prog_4_method_26_code 51 = .ok (.ireturn, 1) := by decide +kernel
theorem d_M_at_0 : decode prog_4_method_27_code 0 = .ok (.aload_n 0, 1) := by decide +kernel
theorem d_M_at_1 : decode prog_4_method_27_code 1 = .ok (.iload_n 1, 1) := by decide +kernel
theorem d_M_at_2 : decode prog_4_method_27_code 2 = .ok (.i2l, 1) := by decide +kernel
theorem d_M_at_3 : decode prog_4_method_27_code 3 = .ok (.ldc2_w 110, 3) := by decide +kernel
theorem d_M_at_6 : decode prog_4_method_27_code 6 = .ok (.ldc2_w 112, 3) := by decide +kernel
theorem d_M_at_9 : decode prog_4_method_27_code 9 = .ok (.invokestatic 41, 3) := by decide +kernel
theorem d_M_at_12 : decode prog_4_method_27_code 12 = .ok (.ifCond .eq 46, 3) := by decide +kernel
theorem d_M_at_15 : decode prog_4_method_27_code 15 = .ok (.iload_n 2, 1) := by decide +kernel
theorem d_M_at_16 : decode prog_4_method_27_code 16 = .ok (.i2l, 1) := by decide +kernel
theorem d_M_at_17 : decode prog_4_method_27_code 17 = .ok (.lconst 1, 1) := by decide +kernel
theorem d_M_at_18 : decode prog_4_method_27_code 18 = .ok (.ldc2_w 112, 3) := by decide +kernel
theorem d_M_at_21 : decode prog_4_method_27_code 21 = .ok (.invokestatic 41, 3) := by decide +kernel
theorem d_M_at_24 : decode prog_4_method_27_code 24 = .ok (.ifCond .eq 34, 3) := by decide +kernel
theorem d_M_at_27 : decode prog_4_method_27_code 27 = .ok (.iload_n 3, 1) := by decide +kernel
theorem d_M_at_28 : decode prog_4_method_27_code 28 = .ok (.i2l, 1) := by decide +kernel
theorem d_M_at_29 : decode prog_4_method_27_code 29 = .ok (.ldc2_w 110, 3) := by decide +kernel
theorem d_M_at_32 : decode prog_4_method_27_code 32 = .ok (.ldc2_w 112, 3) := by decide +kernel
theorem d_M_at_35 : decode prog_4_method_27_code 35 = .ok (.invokestatic 41, 3) := by decide +kernel
theorem d_M_at_38 : decode prog_4_method_27_code 38 = .ok (.ifCond .eq 20, 3) := by decide +kernel
theorem d_M_at_41 : decode prog_4_method_27_code 41 = .ok (.iload 4, 2) := by decide +kernel
theorem d_M_at_43 : decode prog_4_method_27_code 43 = .ok (.i2l, 1) := by decide +kernel
theorem d_M_at_44 : decode prog_4_method_27_code 44 = .ok (.lconst 1, 1) := by decide +kernel
theorem d_M_at_45 : decode prog_4_method_27_code 45 = .ok (.ldc2_w 112, 3) := by decide +kernel
theorem d_M_at_48 : decode prog_4_method_27_code 48 = .ok (.invokestatic 41, 3) := by decide +kernel
theorem d_M_at_51 : decode prog_4_method_27_code 51 = .ok (.ifCond .eq 7, 3) := by decide +kernel
theorem d_M_at_54 : decode prog_4_method_27_code 54 = .ok (.iconst 0, 1) := by decide +kernel
theorem d_M_at_55 : decode prog_4_method_27_code 55 = .ok (.goto 4, 3) := by decide +kernel
theorem d_M_at_58 : decode prog_4_method_27_code 58 = .ok (.iconst 1, 1) := by decide +kernel
theorem d_M_at_59 : decode prog_4_method_27_code 59 = .ok (.putfield 26, 3) := by decide +kernel
theorem d_M_at_62 : decode prog_4_method_27_code 62 = .ok (.aload_n 0, 1) := by decide +kernel
theorem d_M_at_63 : decode prog_4_method_27_code 63 = .ok (.getfield 26, 3) := by decide +kernel
theorem d_M_at_66 : decode prog_4_method_27_code 66 = .ok (.ifCond .le 5, 3) := by decide +kernel
theorem d_M_at_69 : decode prog_4_method_27_code 69 = .ok (.iconst 0, 1) := by decide +kernel
theorem d_M_at_70 : decode prog_4_method_27_code 70 = .ok (.ireturn, 1) := by decide +kernel
theorem d_M_at_71 : decode prog_4_method_27_code 71 = .ok (.iconst 0, 1) := by decide +kernel
theorem d_M_at_72 : decode prog_4_method_27_code 72 = .ok (.istore 5, 2) := by decide +kernel
theorem d_M_at_74 : decode prog_4_method_27_code 74 = .ok (.iload 5, 2) := by decide +kernel
theorem d_M_at_76 : decode prog_4_method_27_code 76 = .ok (.iconst 2, 1) := by decide +kernel
theorem d_M_at_77 : decode prog_4_method_27_code 77 = .ok (.aload_n 0, 1) := by decide +kernel
theorem d_M_at_78 : decode prog_4_method_27_code 78 = .ok (.getfield 51, 3) := by decide +kernel
theorem d_M_at_81 : decode prog_4_method_27_code 81 = .ok (.imul, 1) := by decide +kernel
theorem d_M_at_82 : decode prog_4_method_27_code 82 = .ok (.if_icmp .ge 75, 3) := by decide +kernel
theorem d_M_at_85 : decode prog_4_method_27_code 85 = .ok (.iload 5, 2) := by decide +kernel
theorem d_M_at_87 : decode prog_4_method_27_code 87 = .ok (.iconst 2, 1) := by decide +kernel
theorem d_M_at_88 : decode prog_4_method_27_code 88 = .ok (.irem, 1) := by decide +kernel
theorem d_M_at_89 : decode prog_4_method_27_code 89 = .ok (.ifCond .ne 34, 3) := by decide +kernel
theorem d_M_at_92 : decode prog_4_method_27_code 92 = .ok (.aload_n 0, 1) := by decide +kernel
theorem d_M_at_93 : decode prog_4_method_27_code 93 = .ok (.getfield 13, 3) := by decide +kernel
theorem d_M_at_96 : decode prog_4_method_27_code 96 = .ok (.iload 5, 2) := by decide +kernel
theorem d_M_at_98 : decode prog_4_method_27_code 98 = .ok (.iconst 2, 1) := by decide +kernel
theorem d_M_at_99 : decode prog_4_method_27_code 99 = .ok (.idiv, 1) := by decide +kernel
theorem d_M_at_100 : decode prog_4_method_27_code 100 = .ok (.laload, 1) := by decide +kernel
theorem d_M_at_101 : decode prog_4_method_27_code 101 = .ok (.iload_n 2, 1) := by decide +kernel
theorem d_M_at_102 : decode prog_4_method_27_code 102 = .ok (.i2l, 1) := by decide +kernel
theorem d_M_at_103 : decode prog_4_method_27_code 103 = .ok (.lmul, 1) := by decide +kernel
theorem d_M_at_104 : decode prog_4_method_27_code 104 = .ok (.iload_n 1, 1) := by decide +kernel
theorem d_M_at_105 : decode prog_4_method_27_code 105 = .ok (.i2l, 1) := by decide +kernel
theorem d_M_at_106 : decode prog_4_method_27_code 106 = .ok (.aload_n 0, 1) := by decide +kernel
theorem d_M_at_107 : decode prog_4_method_27_code 107 = .ok (.getfield 17, 3) := by decide +kernel
theorem d_M_at_110 : decode prog_4_method_27_code 110 = .ok (.iload 5, 2) := by decide +kernel
theorem d_M_at_112 : decode prog_4_method_27_code 112 = .ok (.iconst 2, 1) := by decide +kernel
theorem d_M_at_113 : decode prog_4_method_27_code 113 = .ok (.idiv, 1) := by decide +kernel
theorem d_M_at_114 : decode prog_4_method_27_code 114 = .ok (.laload, 1) := by decide +kernel
theorem d_M_at_115 : decode prog_4_method_27_code 115 = .ok (.lmul, 1) := by decide +kernel
theorem d_M_at_116 : decode prog_4_method_27_code 116 = .ok (.lcmp, 1) := by decide +kernel
theorem d_M_at_117 : decode prog_4_method_27_code 117 = .ok (.ifCond .gt 40, 3) := by decide +kernel
theorem d_M_at_120 : decode prog_4_method_27_code 120 = .ok (.goto 31, 3) := by decide +kernel
theorem d_M_at_123 : decode prog_4_method_27_code 123 = .ok (.aload_n 0, 1) := by decide +kernel
theorem d_M_at_124 : decode prog_4_method_27_code 124 = .ok (.getfield 13, 3) := by decide +kernel
theorem d_M_at_127 : decode prog_4_method_27_code 127 = .ok (.iload 5, 2) := by decide +kernel
theorem d_M_at_129 : decode prog_4_method_27_code 129 = .ok (.iconst 2, 1) := by decide +kernel
theorem d_M_at_130 : decode prog_4_method_27_code 130 = .ok (.idiv, 1) := by decide +kernel
theorem d_M_at_131 : decode prog_4_method_27_code 131 = .ok (.laload, 1) := by decide +kernel
theorem d_M_at_132 : decode prog_4_method_27_code 132 = .ok (.iload_n 2, 1) := by decide +kernel
theorem d_M_at_133 : decode prog_4_method_27_code 133 = .ok (.i2l, 1) := by decide +kernel
theorem d_M_at_134 : decode prog_4_method_27_code 134 = .ok (.lmul, 1) := by decide +kernel
theorem d_M_at_135 : decode prog_4_method_27_code 135 = .ok (.iload_n 1, 1) := by decide +kernel
theorem d_M_at_136 : decode prog_4_method_27_code 136 = .ok (.i2l, 1) := by decide +kernel
theorem d_M_at_137 : decode prog_4_method_27_code 137 = .ok (.aload_n 0, 1) := by decide +kernel
theorem d_M_at_138 : decode prog_4_method_27_code 138 = .ok (.getfield 17, 3) := by decide +kernel
theorem d_M_at_141 : decode prog_4_method_27_code 141 = .ok (.iload 5, 2) := by decide +kernel
theorem d_M_at_143 : decode prog_4_method_27_code 143 = .ok (.iconst 2, 1) := by decide +kernel
theorem d_M_at_144 : decode prog_4_method_27_code 144 = .ok (.idiv, 1) := by decide +kernel
theorem d_M_at_145 : decode prog_4_method_27_code 145 = .ok (.laload, 1) := by decide +kernel
theorem d_M_at_146 : decode prog_4_method_27_code 146 = .ok (.lmul, 1) := by decide +kernel
theorem d_M_at_147 : decode prog_4_method_27_code 147 = .ok (.lcmp, 1) := by decide +kernel
theorem d_M_at_148 : decode prog_4_method_27_code 148 = .ok (.ifCond .ge 9, 3) := by decide +kernel
theorem d_M_at_151 : decode prog_4_method_27_code 151 = .ok (.iinc 5 1, 3) := by decide +kernel
theorem d_M_at_154 : decode prog_4_method_27_code 154 = .ok (.goto (-80), 3) := by decide +kernel
theorem d_M_at_157 : decode prog_4_method_27_code 157 = .ok (.iconst 0, 1) := by decide +kernel
theorem d_M_at_158 : decode prog_4_method_27_code 158 = .ok (.istore 6, 2) := by decide +kernel
theorem d_M_at_160 : decode prog_4_method_27_code 160 = .ok (.iconst 0, 1) := by decide +kernel
theorem d_M_at_161 : decode prog_4_method_27_code 161 = .ok (.istore 7, 2) := by decide +kernel
theorem d_M_at_163 : decode prog_4_method_27_code 163 = .ok (.iload 7, 2) := by decide +kernel
theorem d_M_at_165 : decode prog_4_method_27_code 165 = .ok (.iload 5, 2) := by decide +kernel
theorem d_M_at_167 : decode prog_4_method_27_code 167 = .ok (.if_icmp .ge 28, 3) := by decide +kernel
theorem d_M_at_170 : decode prog_4_method_27_code 170 = .ok (.aload_n 0, 1) := by decide +kernel
theorem d_M_at_171 : decode prog_4_method_27_code 171 = .ok (.iload 7, 2) := by decide +kernel
theorem d_M_at_173 : decode prog_4_method_27_code 173 = .ok (.invokevirtual 86, 3) := by decide +kernel
theorem d_M_at_176 : decode prog_4_method_27_code 176 = .ok (.iload 6, 2) := by decide +kernel
theorem d_M_at_178 : decode prog_4_method_27_code 178 = .ok (.iconst 2, 1) := by decide +kernel
theorem d_M_at_179 : decode prog_4_method_27_code 179 = .ok (.aload_n 0, 1) := by decide +kernel
theorem d_M_at_180 : decode prog_4_method_27_code 180 = .ok (.getfield 69, 3) := by decide +kernel
theorem d_M_at_183 : decode prog_4_method_27_code 183 = .ok (.imul, 1) := by decide +kernel
theorem d_M_at_184 : decode prog_4_method_27_code 184 = .ok (.iconst 1, 1) := by decide +kernel
theorem d_M_at_185 : decode prog_4_method_27_code 185 = .ok (.iadd, 1) := by decide +kernel
theorem d_M_at_186 : decode prog_4_method_27_code 186 = .ok (.iadd, 1) := by decide +kernel
theorem d_M_at_187 : decode prog_4_method_27_code 187 = .ok (.istore 6, 2) := by decide +kernel
theorem d_M_at_189 : decode prog_4_method_27_code 189 = .ok (.iinc 7 1, 3) := by decide +kernel
theorem d_M_at_192 : decode prog_4_method_27_code 192 = .ok (.goto (-29), 3) := by decide +kernel
theorem d_M_at_195 : decode prog_4_method_27_code 195 = .ok (.aload_n 0, 1) := by decide +kernel
theorem d_M_at_196 : decode prog_4_method_27_code 196 = .ok (.iload_n 1, 1) := by decide +kernel
theorem d_M_at_197 : decode prog_4_method_27_code 197 = .ok (.i2l, 1) := by decide +kernel
theorem d_M_at_198 : decode prog_4_method_27_code 198 = .ok (.putfield 63, 3) := by decide +kernel
theorem d_M_at_201 : decode prog_4_method_27_code 201 = .ok (.aload_n 0, 1) := by decide +kernel
theorem d_M_at_202 : decode prog_4_method_27_code 202 = .ok (.iload_n 2, 1) := by decide +kernel
theorem d_M_at_203 : decode prog_4_method_27_code 203 = .ok (.i2l, 1) := by decide +kernel
theorem d_M_at_204 : decode prog_4_method_27_code 204 = .ok (.putfield 66, 3) := by decide +kernel
theorem d_M_at_207 : decode prog_4_method_27_code 207 = .ok (.aload_n 0, 1) := by decide +kernel
theorem d_M_at_208 : decode prog_4_method_27_code 208 = .ok (.invokevirtual 83, 3) := by decide +kernel
theorem d_M_at_211 : decode prog_4_method_27_code 211 = .ok (.aload_n 0, 1) := by decide +kernel
theorem d_M_at_212 : decode prog_4_method_27_code 212 = .ok (.iload_n 3, 1) := by decide +kernel
theorem d_M_at_213 : decode prog_4_method_27_code 213 = .ok (.i2l, 1) := by decide +kernel
theorem d_M_at_214 : decode prog_4_method_27_code 214 = .ok (.iload 4, 2) := by decide +kernel
theorem d_M_at_216 : decode prog_4_method_27_code 216 = .ok (.i2l, 1) := by decide +kernel
theorem d_M_at_217 : decode prog_4_method_27_code 217 = .ok (.invokevirtual 54, 3) := by decide +kernel
theorem d_M_at_220 : decode prog_4_method_27_code 220 = .ok (.aload_n 0, 1) := by decide +kernel
theorem d_M_at_221 : decode prog_4_method_27_code 221 = .ok (.invokevirtual 76, 3) := by decide +kernel
theorem d_M_at_224 : decode prog_4_method_27_code 224 = .ok (.istore 7, 2) := by decide +kernel
theorem d_M_at_226 : decode prog_4_method_27_code 226 = .ok (.iload 7, 2) := by decide +kernel
theorem d_M_at_228 : decode prog_4_method_27_code 228 = .ok (.aload_n 0, 1) := by decide +kernel
theorem d_M_at_229 : decode prog_4_method_27_code 229 = .ok (.getfield 69, 3) := by decide +kernel
theorem d_M_at_232 : decode prog_4_method_27_code 232 = .ok (.if_icmp .ge 37, 3) := by decide +kernel
theorem d_M_at_235 : decode prog_4_method_27_code 235 = .ok (.aload_n 0, 1) := by decide +kernel
theorem d_M_at_236 : decode prog_4_method_27_code 236 = .ok (.getfield 20, 3) := by decide +kernel
theorem d_M_at_239 : decode prog_4_method_27_code 239 = .ok (.iload 7, 2) := by decide +kernel
theorem d_M_at_241 : decode prog_4_method_27_code 241 = .ok (.laload, 1) := by decide +kernel
theorem d_M_at_242 : decode prog_4_method_27_code 242 = .ok (.aload_n 0, 1) := by decide +kernel
theorem d_M_at_243 : decode prog_4_method_27_code 243 = .ok (.getfield 30, 3) := by decide +kernel
theorem d_M_at_246 : decode prog_4_method_27_code 246 = .ok (.lcmp, 1) := by decide +kernel
theorem d_M_at_247 : decode prog_4_method_27_code 247 = .ok (.ifCond .ne 22, 3) := by decide +kernel
theorem d_M_at_250 : decode prog_4_method_27_code 250 = .ok (.aload_n 0, 1) := by decide +kernel
theorem d_M_at_251 : decode prog_4_method_27_code 251 = .ok (.getfield 23, 3) := by decide +kernel
theorem d_M_at_254 : decode prog_4_method_27_code 254 = .ok (.iload 7, 2) := by decide +kernel
theorem d_M_at_256 : decode prog_4_method_27_code 256 = .ok (.laload, 1) := by decide +kernel
theorem d_M_at_257 : decode prog_4_method_27_code 257 = .ok (.aload_n 0, 1) := by decide +kernel
theorem d_M_at_258 : decode prog_4_method_27_code 258 = .ok (.getfield 34, 3) := by decide +kernel
theorem d_M_at_261 : decode prog_4_method_27_code 261 = .ok (.lcmp, 1) := by decide +kernel
theorem d_M_at_262 : decode prog_4_method_27_code 262 = .ok (.ifCond .ne 7, 3) := by decide +kernel
theorem d_M_at_265 : decode prog_4_method_27_code 265 = .ok (.iconst 1, 1) := by decide +kernel
theorem d_M_at_266 : decode prog_4_method_27_code 266 = .ok (.goto 4, 3) := by decide +kernel
theorem d_M_at_269 : decode prog_4_method_27_code 269 = .ok (.iconst 0, 1) := by decide +kernel
theorem d_M_at_270 : decode prog_4_method_27_code 270 = .ok (.istore 8, 2) := by decide +kernel
theorem d_M_at_272 : decode prog_4_method_27_code 272 = .ok (.iload 6, 2) := by decide +kernel
theorem d_M_at_274 : decode prog_4_method_27_code 274 = .ok (.iconst 2, 1) := by decide +kernel
theorem d_M_at_275 : decode prog_4_method_27_code 275 = .ok (.iload 7, 2) := by decide +kernel
theorem d_M_at_277 : decode prog_4_method_27_code 277 = .ok (.imul, 1) := by decide +kernel
theorem d_M_at_278 : decode prog_4_method_27_code 278 = .ok (.iadd, 1) := by decide +kernel
theorem d_M_at_279 : decode prog_4_method_27_code 279 = .ok (.iload 8, 2) := by decide +kernel
theorem d_M_at_281 : decode prog_4_method_27_code 281 = .ok (.ifCond .eq 7, 3) := by decide +kernel
theorem d_M_at_284 : decode prog_4_method_27_code 284 = .ok (.iconst 1, 1) := by decide +kernel
theorem d_M_at_285 : decode prog_4_method_27_code 285 = .ok (.goto 4, 3) := by decide +kernel
theorem d_M_at_288 : decode prog_4_method_27_code 288 = .ok (.iconst 0, 1) := by decide +kernel
theorem d_M_at_289 : decode prog_4_method_27_code 289 = .ok (.iadd, 1) := by decide +kernel
theorem d_M_at_290 : decode prog_4_method_27_code 290 = .ok (.ireturn, 1) := by decide +kernel
theorem d_M_find_0 : decode prog_4_method_28_code 0 = .ok (.aload_n 0, 1) := by decide +kernel
theorem d_M_find_1 : decode prog_4_method_28_code 1 = .ok (.iconst 0, 1) := by decide +kernel
theorem d_M_find_2 : decode prog_4_method_28_code 2 = .ok (.putfield 26, 3) := by decide +kernel
theorem d_M_find_5 : decode prog_4_method_28_code 5 = .ok (.iconst 0, 1) := by decide +kernel
theorem d_M_find_6 : decode prog_4_method_28_code 6 = .ok (.istore_n 2, 1) := by decide +kernel
theorem d_M_find_7 : decode prog_4_method_28_code 7 = .ok (.iconst 0, 1) := by decide +kernel
theorem d_M_find_8 : decode prog_4_method_28_code 8 = .ok (.istore_n 3, 1) := by decide +kernel
theorem d_M_find_9 : decode prog_4_method_28_code 9 = .ok (.iload_n 3, 1) := by decide +kernel
theorem d_M_find_10 : decode prog_4_method_28_code 10 = .ok (.iconst 2, 1) := by decide +kernel
theorem d_M_find_11 : decode prog_4_method_28_code 11 = .ok (.aload_n 0, 1) := by decide +kernel
theorem d_M_find_12 : decode prog_4_method_28_code 12 = .ok (.getfield 51, 3) := by decide +kernel
theorem d_M_find_15 : decode prog_4_method_28_code 15 = .ok (.imul, 1) := by decide +kernel
theorem d_M_find_16 : decode prog_4_method_28_code 16 = .ok (.if_icmp .gt 75, 3) := by decide +kernel
theorem d_M_find_19 : decode prog_4_method_28_code 19 = .ok (.aload_n 0, 1) := by decide +kernel
theorem d_M_find_20 : decode prog_4_method_28_code 20 = .ok (.iload_n 3, 1) := by decide +kernel
theorem d_M_find_21 : decode prog_4_method_28_code 21 = .ok (.invokevirtual 86, 3) := by decide +kernel
theorem d_M_find_24 : decode prog_4_method_28_code 24 = .ok (.aload_n 0, 1) := by decide +kernel
theorem d_M_find_25 : decode prog_4_method_28_code 25 = .ok (.iconst 0, 1) := by decide +kernel
theorem d_M_find_26 : decode prog_4_method_28_code 26 = .ok (.putfield 92, 3) := by decide +kernel
theorem d_M_find_29 : decode prog_4_method_28_code 29 = .ok (.aload_n 0, 1) := by decide +kernel
theorem d_M_find_30 : decode prog_4_method_28_code 30 = .ok (.getfield 92, 3) := by decide +kernel
theorem d_M_find_33 : decode prog_4_method_28_code 33 = .ok (.iconst 2, 1) := by decide +kernel
theorem d_M_find_34 : decode prog_4_method_28_code 34 = .ok (.aload_n 0, 1) := by decide +kernel
theorem d_M_find_35 : decode prog_4_method_28_code 35 = .ok (.getfield 69, 3) := by decide +kernel
theorem d_M_find_38 : decode prog_4_method_28_code 38 = .ok (.imul, 1) := by decide +kernel
theorem d_M_find_39 : decode prog_4_method_28_code 39 = .ok (.if_icmp .gt 35, 3) := by decide +kernel
theorem d_M_find_42 : decode prog_4_method_28_code 42 = .ok (.aload_n 0, 1) := by decide +kernel
theorem d_M_find_43 : decode prog_4_method_28_code 43 = .ok (.invokevirtual 99, 3) := by decide +kernel
theorem d_M_find_46 : decode prog_4_method_28_code 46 = .ok (.aload_n 0, 1) := by decide +kernel
theorem d_M_find_47 : decode prog_4_method_28_code 47 = .ok (.iload_n 1, 1) := by decide +kernel
theorem d_M_find_48 : decode prog_4_method_28_code 48 = .ok (.invokevirtual 114, 3) := by decide +kernel
theorem d_M_find_51 : decode prog_4_method_28_code 51 = .ok (.ifCond .eq 10, 3) := by decide +kernel
theorem d_M_find_54 : decode prog_4_method_28_code 54 = .ok (.iload_n 2, 1) := by decide +kernel
theorem d_M_find_55 : decode prog_4_method_28_code 55 = .ok (.aload_n 0, 1) := by decide +kernel
theorem d_M_find_56 : decode prog_4_method_28_code 56 = .ok (.getfield 92, 3) := by decide +kernel
theorem d_M_find_59 : decode prog_4_method_28_code 59 = .ok (.iadd, 1) := by decide +kernel
theorem d_M_find_60 : decode prog_4_method_28_code 60 = .ok (.ireturn, 1) := by decide +kernel
theorem d_M_find_61 : decode prog_4_method_28_code 61 = .ok (.aload_n 0, 1) := by decide +kernel
theorem d_M_find_62 : decode prog_4_method_28_code 62 = .ok (.dup, 1) := by decide +kernel
theorem d_M_find_63 : decode prog_4_method_28_code 63 = .ok (.getfield 92, 3) := by decide +kernel
theorem d_M_find_66 : decode prog_4_method_28_code 66 = .ok (.iconst 1, 1) := by decide +kernel
theorem d_M_find_67 : decode prog_4_method_28_code 67 = .ok (.iadd, 1) := by decide +kernel
theorem d_M_find_68 : decode prog_4_method_28_code 68 = .ok (.putfield 92, 3) := by decide +kernel
theorem d_M_find_71 : decode prog_4_method_28_code 71 = .ok (.goto (-42), 3) := by decide +kernel
theorem d_M_find_74 : decode prog_4_method_28_code 74 = .ok (.iload_n 2, 1) := by decide +kernel
theorem d_M_find_75 : decode prog_4_method_28_code 75 = .ok (.iconst 2, 1) := by decide +kernel
theorem d_M_find_76 : decode prog_4_method_28_code 76 = .ok (.aload_n 0, 1) := by decide +kernel
theorem d_M_find_77 : decode prog_4_method_28_code 77 = .ok (.getfield 69, 3) := by decide +kernel
theorem d_M_find_80 : decode prog_4_method_28_code 80 = .ok (.imul, 1) := by decide +kernel
theorem d_M_find_81 : decode prog_4_method_28_code 81 = .ok (.iconst 1, 1) := by decide +kernel
theorem d_M_find_82 : decode prog_4_method_28_code 82 = .ok (.iadd, 1) := by decide +kernel
theorem d_M_find_83 : decode prog_4_method_28_code 83 = .ok (.iadd, 1) := by decide +kernel
theorem d_M_find_84 : decode prog_4_method_28_code 84 = .ok (.istore_n 2, 1) := by decide +kernel
theorem d_M_find_85 : decode prog_4_method_28_code 85 = .ok (.iinc 3 1, 3) := by decide +kernel
theorem d_M_find_88 : decode prog_4_method_28_code 88 = .ok (.goto (-79), 3) := by decide +kernel
theorem d_M_find_91 : decode prog_4_method_28_code 91 = .ok (.iconst (-1), 1) := by decide +kernel
theorem d_M_find_92 : decode prog_4_method_28_code 92 = .ok (.ireturn, 1) := by decide +kernel
theorem d_M_isSo_0 : decode prog_4_method_29_code 0 = .ok (.iconst 0, 1) := by decide +kernel
theorem d_M_isSo_1 : decode prog_4_method_29_code 1 = .ok (.istore_n 2, 1) := by decide +kernel
theorem d_M_isSo_2 : decode prog_4_method_29_code 2 = .ok (.iload_n 2, 1) := by decide +kernel
theorem d_M_isSo_3 : decode prog_4_method_29_code 3 = .ok (.aload_n 0, 1) := by decide +kernel
theorem d_M_isSo_4 : decode prog_4_method_29_code 4 = .ok (.getfield 45, 3) := by decide +kernel
theorem d_M_isSo_7 : decode prog_4_method_29_code 7 = .ok (.if_icmp .ge 53, 3) := by decide +kernel
theorem d_M_isSo_10 : decode prog_4_method_29_code 10 = .ok (.iload_n 1, 1) := by decide +kernel
theorem d_M_isSo_11 : decode prog_4_method_29_code 11 = .ok (.iconst 2, 1) := by decide +kernel
theorem d_M_isSo_12 : decode prog_4_method_29_code 12 = .ok (.iload_n 2, 1) := by decide +kernel
theorem d_M_isSo_13 : decode prog_4_method_29_code 13 = .ok (.imul, 1) := by decide +kernel
theorem d_M_isSo_14 : decode prog_4_method_29_code 14 = .ok (.ishr, 1) := by decide +kernel
theorem d_M_isSo_15 : decode prog_4_method_29_code 15 = .ok (.iconst 3, 1) := by decide +kernel
theorem d_M_isSo_16 : decode prog_4_method_29_code 16 = .ok (.iand, 1) := by decide +kernel
theorem d_M_isSo_17 : decode prog_4_method_29_code 17 = .ok (.istore_n 3, 1) := by decide +kernel
theorem d_M_isSo_18 : decode prog_4_method_29_code 18 = .ok (.iload_n 3, 1) := by decide +kernel
theorem d_M_isSo_19 : decode prog_4_method_29_code 19 = .ok (.ifCond .ne 6, 3) := by decide +kernel
theorem d_M_isSo_22 : decode prog_4_method_29_code 22 = .ok (.goto 32, 3) := by decide +kernel
theorem d_M_isSo_25 : decode prog_4_method_29_code 25 = .ok (.aload_n 0, 1) := by decide +kernel
theorem d_M_isSo_26 : decode prog_4_method_29_code 26 = .ok (.iload_n 2, 1) := by decide +kernel
theorem d_M_isSo_27 : decode prog_4_method_29_code 27 = .ok (.invokevirtual 106, 3) := by decide +kernel
theorem d_M_isSo_30 : decode prog_4_method_29_code 30 = .ok (.iload_n 3, 1) := by decide +kernel
theorem d_M_isSo_31 : decode prog_4_method_29_code 31 = .ok (.iconst 1, 1) := by decide +kernel
theorem d_M_isSo_32 : decode prog_4_method_29_code 32 = .ok (.if_icmp .ne 7, 3) := by decide +kernel
theorem d_M_isSo_35 : decode prog_4_method_29_code 35 = .ok (.iconst 1, 1) := by decide +kernel
theorem d_M_isSo_36 : decode prog_4_method_29_code 36 = .ok (.goto 13, 3) := by decide +kernel
theorem d_M_isSo_39 : decode prog_4_method_29_code 39 = .ok (.iload_n 3, 1) := by decide +kernel
theorem d_M_isSo_40 : decode prog_4_method_29_code 40 = .ok (.iconst 2, 1) := by decide +kernel
theorem d_M_isSo_41 : decode prog_4_method_29_code 41 = .ok (.if_icmp .ne 7, 3) := by decide +kernel
theorem d_M_isSo_44 : decode prog_4_method_29_code 44 = .ok (.iconst (-1), 1) := by decide +kernel
theorem d_M_isSo_45 : decode prog_4_method_29_code 45 = .ok (.goto 4, 3) := by decide +kernel
theorem d_M_isSo_48 : decode prog_4_method_29_code 48 = .ok (.iconst 0, 1) := by decide +kernel
theorem d_M_isSo_49 : decode prog_4_method_29_code 49 = .ok (.if_icmp .eq 5, 3) := by decide +kernel
theorem d_M_isSo_52 : decode prog_4_method_29_code 52 = .ok (.iconst 0, 1) := by decide +kernel
theorem d_M_isSo_53 : decode prog_4_method_29_code 53 = .ok (.ireturn, 1) := by decide +kernel
theorem d_M_isSo_54 : decode prog_4_method_29_code 54 = .ok (.iinc 2 1, 3) := by decide +kernel
theorem d_M_isSo_57 : decode prog_4_method_29_code 57 = .ok (.goto (-55), 3) := by decide +kernel
theorem d_M_isSo_60 : decode prog_4_method_29_code 60 = .ok (.iconst 1, 1) := by decide +kernel
theorem d_M_isSo_61 : decode prog_4_method_29_code 61 = .ok (.ireturn, 1) := by decide +kernel
theorem d_M_lineOf_0 : decode prog_4_method_30_code 0 = .ok (.aload_n 0, 1) := by decide +kernel
theorem d_M_lineOf_1 : decode prog_4_method_30_code 1 = .ok (.iload_n 1, 1) := by decide +kernel
theorem d_M_lineOf_2 : decode prog_4_method_30_code 2 = .ok (.invokevirtual 86, 3) := by decide +kernel
theorem d_M_lineOf_5 : decode prog_4_method_30_code 5 = .ok (.iconst 0, 1) := by decide +kernel
theorem d_M_lineOf_6 : decode prog_4_method_30_code 6 = .ok (.istore_n 3, 1) := by decide +kernel
theorem d_M_lineOf_7 : decode prog_4_method_30_code 7 = .ok (.iload_n 3, 1) := by decide +kernel
theorem d_M_lineOf_8 : decode prog_4_method_30_code 8 = .ok (.aload_n 0, 1) := by decide +kernel
theorem d_M_lineOf_9 : decode prog_4_method_30_code 9 = .ok (.getfield 45, 3) := by decide +kernel
theorem d_M_lineOf_12 : decode prog_4_method_30_code 12 = .ok (.if_icmp .ge 60, 3) := by decide +kernel
theorem d_M_lineOf_15 : decode prog_4_method_30_code 15 = .ok (.aload_n 0, 1) := by decide +kernel
theorem d_M_lineOf_16 : decode prog_4_method_30_code 16 = .ok (.getfield 7, 3) := by decide +kernel
theorem d_M_lineOf_19 : decode prog_4_method_30_code 19 = .ok (.iconst 3, 1) := by decide +kernel
theorem d_M_lineOf_20 : decode prog_4_method_30_code 20 = .ok (.iload_n 3, 1) := by decide +kernel
theorem d_M_lineOf_21 : decode prog_4_method_30_code 21 = .ok (.imul, 1) := by decide +kernel
theorem d_M_lineOf_22 : decode prog_4_method_30_code 22 = .ok (.iconst 1, 1) := by decide +kernel
theorem d_M_lineOf_23 : decode prog_4_method_30_code 23 = .ok (.iadd, 1) := by decide +kernel
theorem d_M_lineOf_24 : decode prog_4_method_30_code 24 = .ok (.iaload, 1) := by decide +kernel
theorem d_M_lineOf_25 : decode prog_4_method_30_code 25 = .ok (.ifCond .ne 6, 3) := by decide +kernel
theorem d_M_lineOf_28 : decode prog_4_method_30_code 28 = .ok (.goto 38, 3) := by decide +kernel
theorem d_M_lineOf_31 : decode prog_4_method_30_code 31 = .ok (.aload_n 0, 1) := by decide +kernel
theorem d_M_lineOf_32 : decode prog_4_method_30_code 32 = .ok (.iload_n 3, 1) := by decide +kernel
theorem d_M_lineOf_33 : decode prog_4_method_30_code 33 = .ok (.invokevirtual 72, 3) := by decide +kernel
theorem d_M_lineOf_36 : decode prog_4_method_30_code 36 = .ok (.aload_n 0, 1) := by decide +kernel
theorem d_M_lineOf_37 : decode prog_4_method_30_code 37 = .ok (.getfield 30, 3) := by decide +kernel
theorem d_M_lineOf_40 : decode prog_4_method_30_code 40 = .ok (.aload_n 0, 1) := by decide +kernel
theorem d_M_lineOf_41 : decode prog_4_method_30_code 41 = .ok (.getfield 20, 3) := by decide +kernel
theorem d_M_lineOf_44 : decode prog_4_method_30_code 44 = .ok (.iload_n 2, 1) := by decide +kernel
theorem d_M_lineOf_45 : decode prog_4_method_30_code 45 = .ok (.laload, 1) := by decide +kernel
theorem d_M_lineOf_46 : decode prog_4_method_30_code 46 = .ok (.lcmp, 1) := by decide +kernel
theorem d_M_lineOf_47 : decode prog_4_method_30_code 47 = .ok (.ifCond .ne 19, 3) := by decide +kernel
theorem d_M_lineOf_50 : decode prog_4_method_30_code 50 = .ok (.aload_n 0, 1) := by decide +kernel
theorem d_M_lineOf_51 : decode prog_4_method_30_code 51 = .ok (.getfield 34, 3) := by decide +kernel
theorem d_M_lineOf_54 : decode prog_4_method_30_code 54 = .ok (.aload_n 0, 1) := by decide +kernel
theorem d_M_lineOf_55 : decode prog_4_method_30_code 55 = .ok (.getfield 23, 3) := by decide +kernel
theorem d_M_lineOf_58 : decode prog_4_method_30_code 58 = .ok (.iload_n 2, 1) := by decide +kernel
theorem d_M_lineOf_59 : decode prog_4_method_30_code 59 = .ok (.laload, 1) := by decide +kernel
theorem d_M_lineOf_60 : decode prog_4_method_30_code 60 = .ok (.lcmp, 1) := by decide +kernel
theorem d_M_lineOf_61 : decode prog_4_method_30_code 61 = .ok (.ifCond .ne 5, 3) := by decide +kernel
theorem d_M_lineOf_64 : decode prog_4_method_30_code 64 = .ok (.iload_n 3, 1) := by decide +kernel
theorem d_M_lineOf_65 : decode prog_4_method_30_code 65 = .ok (.ireturn, 1) := by decide +kernel
theorem d_M_lineOf_66 : decode prog_4_method_30_code 66 = .ok (.iinc 3 1, 3) := by decide +kernel
theorem d_M_lineOf_69 : decode prog_4_method_30_code 69 = .ok (.goto (-62), 3) := by decide +kernel
theorem d_M_lineOf_72 : decode prog_4_method_30_code 72 = .ok (.iconst (-1), 1) := by decide +kernel
theorem d_M_lineOf_73 : decode prog_4_method_30_code 73 = .ok (.ireturn, 1) := by decide +kernel
theorem d_M_ends_0 : decode prog_4_method_31_code 0 = .ok (.aload_n 0, 1) := by decide +kernel
theorem d_M_ends_1 : decode prog_4_method_31_code 1 = .ok (.iload_n 1, 1) := by decide +kernel
theorem d_M_ends_2 : decode prog_4_method_31_code 2 = .ok (.invokevirtual 86, 3) := by decide +kernel
theorem d_M_ends_5 : decode prog_4_method_31_code 5 = .ok (.aload_n 0, 1) := by decide +kernel
theorem d_M_ends_6 : decode prog_4_method_31_code 6 = .ok (.getfield 69, 3) := by decide +kernel
theorem d_M_ends_9 : decode prog_4_method_31_code 9 = .ok (.istore 4, 2) := by decide +kernel
theorem d_M_ends_11 : decode prog_4_method_31_code 11 = .ok (.iload_n 2, 1) := by decide +kernel
theorem d_M_ends_12 : decode prog_4_method_31_code 12 = .ok (.i2l, 1) := by decide +kernel
theorem d_M_ends_13 : decode prog_4_method_31_code 13 = .ok (.lconst 0, 1) := by decide +kernel
theorem d_M_ends_14 : decode prog_4_method_31_code 14 = .ok (.iload 4, 2) := by decide +kernel
theorem d_M_ends_16 : decode prog_4_method_31_code 16 = .ok (.iconst 1, 1) := by decide +kernel
theorem d_M_ends_17 : decode prog_4_method_31_code 17 = .ok (.isub, 1) := by decide +kernel
theorem d_M_ends_18 : decode prog_4_method_31_code 18 = .ok (.i2l, 1) := by decide +kernel
theorem d_M_ends_19 : decode prog_4_method_31_code 19 = .ok (.invokestatic 41, 3) := by decide +kernel
theorem d_M_ends_22 : decode prog_4_method_31_code 22 = .ok (.ifCond .eq 12, 3) := by decide +kernel
theorem d_M_ends_25 : decode prog_4_method_31_code 25 = .ok (.aload_n 0, 1) := by decide +kernel
theorem d_M_ends_26 : decode prog_4_method_31_code 26 = .ok (.iload_n 1, 1) := by decide +kernel
theorem d_M_ends_27 : decode prog_4_method_31_code 27 = .ok (.iload_n 2, 1) := by decide +kernel
theorem d_M_ends_28 : decode prog_4_method_31_code 28 = .ok (.invokevirtual 117, 3) := by decide +kernel
theorem d_M_ends_31 : decode prog_4_method_31_code 31 = .ok (.goto 4, 3) := by decide +kernel
theorem d_M_ends_34 : decode prog_4_method_31_code 34 = .ok (.iconst (-1), 1) := by decide +kernel
theorem d_M_ends_35 : decode prog_4_method_31_code 35 = .ok (.istore 5, 2) := by decide +kernel
theorem d_M_ends_37 : decode prog_4_method_31_code 37 = .ok (.aload_n 0, 1) := by decide +kernel
theorem d_M_ends_38 : decode prog_4_method_31_code 38 = .ok (.iload_n 3, 1) := by decide +kernel
theorem d_M_ends_39 : decode prog_4_method_31_code 39 = .ok (.invokevirtual 86, 3) := by decide +kernel
theorem d_M_ends_42 : decode prog_4_method_31_code 42 = .ok (.iload_n 2, 1) := by decide +kernel
theorem d_M_ends_43 : decode prog_4_method_31_code 43 = .ok (.ifCond .ge 5, 3) := by decide +kernel
theorem d_M_ends_46 : decode prog_4_method_31_code 46 = .ok (.iconst (-1), 1) := by decide +kernel
theorem d_M_ends_47 : decode prog_4_method_31_code 47 = .ok (.ireturn, 1) := by decide +kernel
theorem d_M_ends_48 : decode prog_4_method_31_code 48 = .ok (.iload_n 2, 1) := by decide +kernel
theorem d_M_ends_49 : decode prog_4_method_31_code 49 = .ok (.iload 4, 2) := by decide +kernel
theorem d_M_ends_51 : decode prog_4_method_31_code 51 = .ok (.if_icmp .lt 8, 3) := by decide +kernel
theorem d_M_ends_54 : decode prog_4_method_31_code 54 = .ok (.aload_n 0, 1) := by decide +kernel
theorem d_M_ends_55 : decode prog_4_method_31_code 55 = .ok (.getfield 69, 3) := by decide +kernel
theorem d_M_ends_58 : decode prog_4_method_31_code 58 = .ok (.ireturn, 1) := by decide +kernel
theorem d_M_ends_59 : decode prog_4_method_31_code 59 = .ok (.aload_n 0, 1) := by decide +kernel
theorem d_M_ends_60 : decode prog_4_method_31_code 60 = .ok (.iload 5, 2) := by decide +kernel
theorem d_M_ends_62 : decode prog_4_method_31_code 62 = .ok (.invokevirtual 72, 3) := by decide +kernel
theorem d_M_ends_65 : decode prog_4_method_31_code 65 = .ok (.aload_n 0, 1) := by decide +kernel
theorem d_M_ends_66 : decode prog_4_method_31_code 66 = .ok (.invokevirtual 76, 3) := by decide +kernel
theorem d_M_ends_69 : decode prog_4_method_31_code 69 = .ok (.ireturn, 1) := by decide +kernel
theorem d_M_touch_0 : decode prog_4_method_32_code 0 = .ok (.aload_n 0, 1) := by decide +kernel
theorem d_M_touch_1 : decode prog_4_method_32_code 1 = .ok (.aload_n 0, 1) := by decide +kernel
theorem d_M_touch_2 : decode prog_4_method_32_code 2 = .ok (.iload_n 1, 1) := by decide +kernel
theorem d_M_touch_3 : decode prog_4_method_32_code 3 = .ok (.invokevirtual 95, 3) := by decide +kernel
theorem d_M_touch_6 : decode prog_4_method_32_code 6 = .ok (.ifCond .eq 15, 3) := by decide +kernel
theorem d_M_touch_9 : decode prog_4_method_32_code 9 = .ok (.aload_n 0, 1) := by decide +kernel
theorem d_M_touch_10 : decode prog_4_method_32_code 10 = .ok (.iload_n 2, 1) := by decide +kernel
theorem d_M_touch_11 : decode prog_4_method_32_code 11 = .ok (.invokevirtual 95, 3) := by decide +kernel
theorem d_M_touch_14 : decode prog_4_method_32_code 14 = .ok (.ifCond .eq 7, 3) := by decide +kernel
theorem d_M_touch_17 : decode prog_4_method_32_code 17 = .ok (.iconst 0, 1) := by decide +kernel
theorem d_M_touch_18 : decode prog_4_method_32_code 18 = .ok (.goto 4, 3) := by decide +kernel
theorem d_M_touch_21 : decode prog_4_method_32_code 21 = .ok (.iconst 1, 1) := by decide +kernel
theorem d_M_touch_22 : decode prog_4_method_32_code 22 = .ok (.putfield 26, 3) := by decide +kernel
theorem d_M_touch_25 : decode prog_4_method_32_code 25 = .ok (.aload_n 0, 1) := by decide +kernel
theorem d_M_touch_26 : decode prog_4_method_32_code 26 = .ok (.getfield 26, 3) := by decide +kernel
theorem d_M_touch_29 : decode prog_4_method_32_code 29 = .ok (.ifCond .le 5, 3) := by decide +kernel
theorem d_M_touch_32 : decode prog_4_method_32_code 32 = .ok (.iconst 0, 1) := by decide +kernel
theorem d_M_touch_33 : decode prog_4_method_32_code 33 = .ok (.ireturn, 1) := by decide +kernel
theorem d_M_touch_34 : decode prog_4_method_32_code 34 = .ok (.aload_n 0, 1) := by decide +kernel
theorem d_M_touch_35 : decode prog_4_method_32_code 35 = .ok (.getfield 89, 3) := by decide +kernel
theorem d_M_touch_38 : decode prog_4_method_32_code 38 = .ok (.istore_n 3, 1) := by decide +kernel
theorem d_M_touch_39 : decode prog_4_method_32_code 39 = .ok (.aload_n 0, 1) := by decide +kernel
theorem d_M_touch_40 : decode prog_4_method_32_code 40 = .ok (.getfield 92, 3) := by decide +kernel
theorem d_M_touch_43 : decode prog_4_method_32_code 43 = .ok (.istore 4, 2) := by decide +kernel
theorem d_M_touch_45 : decode prog_4_method_32_code 45 = .ok (.aload_n 0, 1) := by decide +kernel
theorem d_M_touch_46 : decode prog_4_method_32_code 46 = .ok (.iload_n 1, 1) := by decide +kernel
theorem d_M_touch_47 : decode prog_4_method_32_code 47 = .ok (.invokevirtual 95, 3) := by decide +kernel
theorem d_M_touch_50 : decode prog_4_method_32_code 50 = .ok (.pop, 1) := by decide +kernel
theorem d_M_touch_51 : decode prog_4_method_32_code 51 = .ok (.aload_n 0, 1) := by decide +kernel
theorem d_M_touch_52 : decode prog_4_method_32_code 52 = .ok (.getfield 89, 3) := by decide +kernel
theorem d_M_touch_55 : decode prog_4_method_32_code 55 = .ok (.istore 5, 2) := by decide +kernel
theorem d_M_touch_57 : decode prog_4_method_32_code 57 = .ok (.aload_n 0, 1) := by decide +kernel
theorem d_M_touch_58 : decode prog_4_method_32_code 58 = .ok (.getfield 92, 3) := by decide +kernel
theorem d_M_touch_61 : decode prog_4_method_32_code 61 = .ok (.istore 6, 2) := by decide +kernel
theorem d_M_touch_63 : decode prog_4_method_32_code 63 = .ok (.iload 5, 2) := by decide +kernel
theorem d_M_touch_65 : decode prog_4_method_32_code 65 = .ok (.iload_n 3, 1) := by decide +kernel
theorem d_M_touch_66 : decode prog_4_method_32_code 66 = .ok (.if_icmp .ne 17, 3) := by decide +kernel
theorem d_M_touch_69 : decode prog_4_method_32_code 69 = .ok (.iload 6, 2) := by decide +kernel
theorem d_M_touch_71 : decode prog_4_method_32_code 71 = .ok (.iload 4, 2) := by decide +kernel
theorem d_M_touch_73 : decode prog_4_method_32_code 73 = .ok (.isub, 1) := by decide +kernel
theorem d_M_touch_74 : decode prog_4_method_32_code 74 = .ok (.i2l, 1) := by decide +kernel
theorem d_M_touch_75 : decode prog_4_method_32_code 75 = .ok (.ldc2_w 121, 3) := by decide +kernel
theorem d_M_touch_78 : decode prog_4_method_32_code 78 = .ok (.lconst 1, 1) := by decide +kernel
theorem d_M_touch_79 : decode prog_4_method_32_code 79 = .ok (.invokestatic 41, 3) := by decide +kernel
theorem d_M_touch_82 : decode prog_4_method_32_code 82 = .ok (.ireturn, 1) := by decide +kernel
theorem d_M_touch_83 : decode prog_4_method_32_code 83 = .ok (.iload 5, 2) := by decide +kernel
theorem d_M_touch_85 : decode prog_4_method_32_code 85 = .ok (.iload_n 3, 1) := by decide +kernel
theorem d_M_touch_86 : decode prog_4_method_32_code 86 = .ok (.isub, 1) := by decide +kernel
theorem d_M_touch_87 : decode prog_4_method_32_code 87 = .ok (.i2l, 1) := by decide +kernel
theorem d_M_touch_88 : decode prog_4_method_32_code 88 = .ok (.ldc2_w 121, 3) := by decide +kernel
theorem d_M_touch_91 : decode prog_4_method_32_code 91 = .ok (.lconst 1, 1) := by decide +kernel
theorem d_M_touch_92 : decode prog_4_method_32_code 92 = .ok (.invokestatic 41, 3) := by decide +kernel
theorem d_M_touch_95 : decode prog_4_method_32_code 95 = .ok (.ifCond .ne 5, 3) := by decide +kernel
theorem d_M_touch_98 : decode prog_4_method_32_code 98 = .ok (.iconst 0, 1) := by decide +kernel
theorem d_M_touch_99 : decode prog_4_method_32_code 99 = .ok (.ireturn, 1) := by decide +kernel
theorem d_M_touch_100 : decode prog_4_method_32_code 100 = .ok (.iload 5, 2) := by decide +kernel
theorem d_M_touch_102 : decode prog_4_method_32_code 102 = .ok (.iconst 2, 1) := by decide +kernel
theorem d_M_touch_103 : decode prog_4_method_32_code 103 = .ok (.irem, 1) := by decide +kernel
theorem d_M_touch_104 : decode prog_4_method_32_code 104 = .ok (.iconst 1, 1) := by decide +kernel
theorem d_M_touch_105 : decode prog_4_method_32_code 105 = .ok (.if_icmp .ne 8, 3) := by decide +kernel
theorem d_M_touch_108 : decode prog_4_method_32_code 108 = .ok (.iload 5, 2) := by decide +kernel
theorem d_M_touch_110 : decode prog_4_method_32_code 110 = .ok (.goto 4, 3) := by decide +kernel
theorem d_M_touch_113 : decode prog_4_method_32_code 113 = .ok (.iload_n 3, 1) := by decide +kernel
theorem d_M_touch_114 : decode prog_4_method_32_code 114 = .ok (.istore 7, 2) := by decide +kernel
theorem d_M_touch_116 : decode prog_4_method_32_code 116 = .ok (.iload 5, 2) := by decide +kernel
theorem d_M_touch_118 : decode prog_4_method_32_code 118 = .ok (.iconst 2, 1) := by decide +kernel
theorem d_M_touch_119 : decode prog_4_method_32_code 119 = .ok (.irem, 1) := by decide +kernel
theorem d_M_touch_120 : decode prog_4_method_32_code 120 = .ok (.iconst 1, 1) := by decide +kernel
theorem d_M_touch_121 : decode prog_4_method_32_code 121 = .ok (.if_icmp .ne 8, 3) := by decide +kernel
theorem d_M_touch_124 : decode prog_4_method_32_code 124 = .ok (.iload 6, 2) := by decide +kernel
theorem d_M_touch_126 : decode prog_4_method_32_code 126 = .ok (.goto 5, 3) := by decide +kernel
theorem d_M_touch_129 : decode prog_4_method_32_code 129 = .ok (.iload 4, 2) := by decide +kernel
theorem d_M_touch_131 : decode prog_4_method_32_code 131 = .ok (.istore 8, 2) := by decide +kernel
theorem d_M_touch_133 : decode prog_4_method_32_code 133 = .ok (.iload 5, 2) := by decide +kernel
theorem d_M_touch_135 : decode prog_4_method_32_code 135 = .ok (.iconst 2, 1) := by decide +kernel
theorem d_M_touch_136 : decode prog_4_method_32_code 136 = .ok (.irem, 1) := by decide +kernel
theorem d_M_touch_137 : decode prog_4_method_32_code 137 = .ok (.iconst 1, 1) := by decide +kernel
theorem d_M_touch_138 : decode prog_4_method_32_code 138 = .ok (.if_icmp .ne 7, 3) := by decide +kernel
theorem d_M_touch_141 : decode prog_4_method_32_code 141 = .ok (.iload_n 3, 1) := by decide +kernel
theorem d_M_touch_142 : decode prog_4_method_32_code 142 = .ok (.goto 5, 3) := by decide +kernel
theorem d_M_touch_145 : decode prog_4_method_32_code 145 = .ok (.iload 5, 2) := by decide +kernel
theorem d_M_touch_147 : decode prog_4_method_32_code 147 = .ok (.istore 9, 2) := by decide +kernel
theorem d_M_touch_149 : decode prog_4_method_32_code 149 = .ok (.iload 5, 2) := by decide +kernel
theorem d_M_touch_151 : decode prog_4_method_32_code 151 = .ok (.iconst 2, 1) := by decide +kernel
theorem d_M_touch_152 : decode prog_4_method_32_code 152 = .ok (.irem, 1) := by decide +kernel
theorem d_M_touch_153 : decode prog_4_method_32_code 153 = .ok (.iconst 1, 1) := by decide +kernel
theorem d_M_touch_154 : decode prog_4_method_32_code 154 = .ok (.if_icmp .ne 8, 3) := by decide +kernel
theorem d_M_touch_157 : decode prog_4_method_32_code 157 = .ok (.iload 4, 2) := by decide +kernel
theorem d_M_touch_159 : decode prog_4_method_32_code 159 = .ok (.goto 5, 3) := by decide +kernel
theorem d_M_touch_162 : decode prog_4_method_32_code 162 = .ok (.iload 6, 2) := by decide +kernel
theorem d_M_touch_164 : decode prog_4_method_32_code 164 = .ok (.istore 10, 2) := by decide +kernel
theorem d_M_touch_166 : decode prog_4_method_32_code 166 = .ok (.iload 10, 2) := by decide +kernel
theorem d_M_touch_168 : decode prog_4_method_32_code 168 = .ok (.iconst 2, 1) := by decide +kernel
theorem d_M_touch_169 : decode prog_4_method_32_code 169 = .ok (.irem, 1) := by decide +kernel
theorem d_M_touch_170 : decode prog_4_method_32_code 170 = .ok (.iconst 1, 1) := by decide +kernel
theorem d_M_touch_171 : decode prog_4_method_32_code 171 = .ok (.if_icmp .ne 30, 3) := by decide +kernel
theorem d_M_touch_174 : decode prog_4_method_32_code 174 = .ok (.iload 8, 2) := by decide +kernel
theorem d_M_touch_176 : decode prog_4_method_32_code 176 = .ok (.iconst 2, 1) := by decide +kernel
theorem d_M_touch_177 : decode prog_4_method_32_code 177 = .ok (.aload_n 0, 1) := by decide +kernel
theorem d_M_touch_178 : decode prog_4_method_32_code 178 = .ok (.iload 9, 2) := by decide +kernel
theorem d_M_touch_180 : decode prog_4_method_32_code 180 = .ok (.iload 10, 2) := by decide +kernel
theorem d_M_touch_182 : decode prog_4_method_32_code 182 = .ok (.iconst 2, 1) := by decide +kernel
theorem d_M_touch_183 : decode prog_4_method_32_code 183 = .ok (.idiv, 1) := by decide +kernel
theorem d_M_touch_184 : decode prog_4_method_32_code 184 = .ok (.iload 7, 2) := by decide +kernel
theorem d_M_touch_186 : decode prog_4_method_32_code 186 = .ok (.invokevirtual 123, 3) := by decide +kernel
theorem d_M_touch_189 : decode prog_4_method_32_code 189 = .ok (.imul, 1) := by decide +kernel
theorem d_M_touch_190 : decode prog_4_method_32_code 190 = .ok (.iconst 1, 1) := by decide +kernel
theorem d_M_touch_191 : decode prog_4_method_32_code 191 = .ok (.iadd, 1) := by decide +kernel
theorem d_M_touch_192 : decode prog_4_method_32_code 192 = .ok (.if_icmp .ne 7, 3) := by decide +kernel
theorem d_M_touch_195 : decode prog_4_method_32_code 195 = .ok (.iconst 1, 1) := by decide +kernel
theorem d_M_touch_196 : decode prog_4_method_32_code 196 = .ok (.goto 4, 3) := by decide +kernel
theorem d_M_touch_199 : decode prog_4_method_32_code 199 = .ok (.iconst 0, 1) := by decide +kernel
theorem d_M_touch_200 : decode prog_4_method_32_code 200 = .ok (.ireturn, 1) := by decide +kernel
theorem d_M_touch_201 : decode prog_4_method_32_code 201 = .ok (.aload_n 0, 1) := by decide +kernel
theorem d_M_touch_202 : decode prog_4_method_32_code 202 = .ok (.iload 9, 2) := by decide +kernel
theorem d_M_touch_204 : decode prog_4_method_32_code 204 = .ok (.iload 10, 2) := by decide +kernel
theorem d_M_touch_206 : decode prog_4_method_32_code 206 = .ok (.iconst 2, 1) := by decide +kernel
theorem d_M_touch_207 : decode prog_4_method_32_code 207 = .ok (.idiv, 1) := by decide +kernel
theorem d_M_touch_208 : decode prog_4_method_32_code 208 = .ok (.iconst 1, 1) := by decide +kernel
theorem d_M_touch_209 : decode prog_4_method_32_code 209 = .ok (.isub, 1) := by decide +kernel
theorem d_M_touch_210 : decode prog_4_method_32_code 210 = .ok (.iload 7, 2) := by decide +kernel
theorem d_M_touch_212 : decode prog_4_method_32_code 212 = .ok (.invokevirtual 123, 3) := by decide +kernel
theorem d_M_touch_215 : decode prog_4_method_32_code 215 = .ok (.istore 11, 2) := by decide +kernel
theorem d_M_touch_217 : decode prog_4_method_32_code 217 = .ok (.aload_n 0, 1) := by decide +kernel
theorem d_M_touch_218 : decode prog_4_method_32_code 218 = .ok (.iload 9, 2) := by decide +kernel
theorem d_M_touch_220 : decode prog_4_method_32_code 220 = .ok (.iload 10, 2) := by decide +kernel
theorem d_M_touch_222 : decode prog_4_method_32_code 222 = .ok (.iconst 2, 1) := by decide +kernel
theorem d_M_touch_223 : decode prog_4_method_32_code 223 = .ok (.idiv, 1) := by decide +kernel
theorem d_M_touch_224 : decode prog_4_method_32_code 224 = .ok (.iload 7, 2) := by decide +kernel
theorem d_M_touch_226 : decode prog_4_method_32_code 226 = .ok (.invokevirtual 123, 3) := by decide +kernel
theorem d_M_touch_229 : decode prog_4_method_32_code 229 = .ok (.istore 12, 2) := by decide +kernel
theorem d_M_touch_231 : decode prog_4_method_32_code 231 = .ok (.iload 8, 2) := by decide +kernel
theorem d_M_touch_233 : decode prog_4_method_32_code 233 = .ok (.iconst 2, 1) := by decide +kernel
theorem d_M_touch_234 : decode prog_4_method_32_code 234 = .ok (.iload 11, 2) := by decide +kernel
theorem d_M_touch_236 : decode prog_4_method_32_code 236 = .ok (.imul, 1) := by decide +kernel
theorem d_M_touch_237 : decode prog_4_method_32_code 237 = .ok (.iconst 1, 1) := by decide +kernel
theorem d_M_touch_238 : decode prog_4_method_32_code 238 = .ok (.iadd, 1) := by decide +kernel
theorem d_M_touch_239 : decode prog_4_method_32_code 239 = .ok (.if_icmp .lt 18, 3) := by decide +kernel
theorem d_M_touch_242 : decode prog_4_method_32_code 242 = .ok (.iload 8, 2) := by decide +kernel
theorem d_M_touch_244 : decode prog_4_method_32_code 244 = .ok (.iconst 2, 1) := by decide +kernel
theorem d_M_touch_245 : decode prog_4_method_32_code 245 = .ok (.iload 12, 2) := by decide +kernel
theorem d_M_touch_247 : decode prog_4_method_32_code 247 = .ok (.imul, 1) := by decide +kernel
theorem d_M_touch_248 : decode prog_4_method_32_code 248 = .ok (.iconst 1, 1) := by decide +kernel
theorem d_M_touch_249 : decode prog_4_method_32_code 249 = .ok (.iadd, 1) := by decide +kernel
theorem d_M_touch_250 : decode prog_4_method_32_code 250 = .ok (.if_icmp .gt 7, 3) := by decide +kernel
theorem d_M_touch_253 : decode prog_4_method_32_code 253 = .ok (.iconst 1, 1) := by decide +kernel
theorem d_M_touch_254 : decode prog_4_method_32_code 254 = .ok (.goto 4, 3) := by decide +kernel
theorem d_M_touch_257 : decode prog_4_method_32_code 257 = .ok (.iconst 0, 1) := by decide +kernel
theorem d_M_touch_258 : decode prog_4_method_32_code 258 = .ok (.ireturn, 1) := by decide +kernel
end
section
theorem d_L_line_0 : decode method_3_code 0 = .ok (.aload 4, 2) := by decide +kernel
theorem d_L_line_2 : decode method_3_code 2 = .ok (.iconst 0, 1) := by decide +kernel
theorem d_L_line_3 : decode method_3_code 3 = .ok (.aload_n 0, 1) := by decide +kernel
theorem d_L_line_4 : decode method_3_code 4 = .ok (.iload_n 1, 1) := by decide +kernel
theorem d_L_line_5 : decode method_3_code 5 = .ok (.iload_n 2, 1) := by decide +kernel
theorem d_L_line_6 : decode method_3_code 6 = .ok (.iload_n 3, 1) := by decide +kernel
theorem d_L_line_7 : decode method_3_code 7 = .ok (.invokevirtual 7, 3) := by decide +kernel
theorem d_L_line_10 : decode method_3_code 10 = .ok (.i2l, 1) := by decide +kernel
theorem d_L_line_11 : decode method_3_code 11 = .ok (.lastore, 1) := by decide +kernel
theorem d_L_line_12 : decode method_3_code 12 = .ok (.goto 11, 3) := by decide +kernel
theorem d_L_line_15 : decode method_3_code 15 = .ok (.astore 5, 2) := by decide +kernel
theorem d_L_line_17 : decode method_3_code 17 = .ok (.iconst 1, 1) := by decide +kernel
theorem d_L_line_18 : decode method_3_code 18 = .ok (.ireturn, 1) := by decide +kernel
theorem d_L_line_19 : decode method_3_code 19 = .ok (.astore 5, 2) := by decide +kernel
theorem d_L_line_21 : decode method_3_code 21 = .ok (.iconst 2, 1) := by decide +kernel
theorem d_L_line_22 : decode method_3_code 22 = .ok (.ireturn, 1) := by decide +kernel
theorem d_L_line_23 : decode method_3_code 23 = .ok (.iconst 0, 1) := by decide +kernel
theorem d_L_line_24 : decode method_3_code 24 = .ok (.ireturn, 1) := by decide +kernel
theorem d_L_drop_0 : decode method_4_code 0 = .ok (.aload_n 0, 1) := by decide +kernel
theorem d_L_drop_1 : decode method_4_code 1 = .ok (.iload_n 1, 1) := by decide +kernel
theorem d_L_drop_2 : decode method_4_code 2 = .ok (.invokevirtual 17, 3) := by decide +kernel
theorem d_L_drop_5 : decode method_4_code 5 = .ok (.goto 6, 3) := by decide +kernel
theorem d_L_drop_8 : decode method_4_code 8 = .ok (.astore_n 2, 1) := by decide +kernel
theorem d_L_drop_9 : decode method_4_code 9 = .ok (.iconst 1, 1) := by decide +kernel
theorem d_L_drop_10 : decode method_4_code 10 = .ok (.ireturn, 1) := by decide +kernel
theorem d_L_drop_11 : decode method_4_code 11 = .ok (.iconst 0, 1) := by decide +kernel
theorem d_L_drop_12 : decode method_4_code 12 = .ok (.ireturn, 1) := by decide +kernel
theorem d_L_cut_0 : decode method_5_code 0 = .ok (.aload_n 3, 1) := by decide +kernel
theorem d_L_cut_1 : decode method_5_code 1 = .ok (.iconst 0, 1) := by decide +kernel
theorem d_L_cut_2 : decode method_5_code 2 = .ok (.aload_n 0, 1) := by decide +kernel
theorem d_L_cut_3 : decode method_5_code 3 = .ok (.iload_n 1, 1) := by decide +kernel
theorem d_L_cut_4 : decode method_5_code 4 = .ok (.iload_n 2, 1) := by decide +kernel
theorem d_L_cut_5 : decode method_5_code 5 = .ok (.invokevirtual 23, 3) := by decide +kernel
theorem d_L_cut_8 : decode method_5_code 8 = .ok (.lastore, 1) := by decide +kernel
theorem d_L_cut_9 : decode method_5_code 9 = .ok (.goto 11, 3) := by decide +kernel
theorem d_L_cut_12 : decode method_5_code 12 = .ok (.astore 4, 2) := by decide +kernel
theorem d_L_cut_14 : decode method_5_code 14 = .ok (.iconst 1, 1) := by decide +kernel
theorem d_L_cut_15 : decode method_5_code 15 = .ok (.ireturn, 1) := by decide +kernel
theorem d_L_cut_16 : decode method_5_code 16 = .ok (.astore 4, 2) := by decide +kernel
theorem d_L_cut_18 : decode method_5_code 18 = .ok (.iconst 2, 1) := by decide +kernel
theorem d_L_cut_19 : decode method_5_code 19 = .ok (.ireturn, 1) := by decide +kernel
theorem d_L_cut_20 : decode method_5_code 20 = .ok (.iconst 0, 1) := by decide +kernel
theorem d_L_cut_21 : decode method_5_code 21 = .ok (.ireturn, 1) := by decide +kernel
theorem d_L_curves_0 : decode method_6_code 0 = .ok (.aload_n 2, 1) := by decide +kernel
theorem d_L_curves_1 : decode method_6_code 1 = .ok (.iconst 0, 1) := by decide +kernel
theorem d_L_curves_2 : decode method_6_code 2 = .ok (.aload_n 0, 1) := by decide +kernel
theorem d_L_curves_3 : decode method_6_code 3 = .ok (.iload_n 1, 1) := by decide +kernel
theorem d_L_curves_4 : decode method_6_code 4 = .ok (.invokevirtual 27, 3) := by decide +kernel
theorem d_L_curves_7 : decode method_6_code 7 = .ok (.i2l, 1) := by decide +kernel
theorem d_L_curves_8 : decode method_6_code 8 = .ok (.lastore, 1) := by decide +kernel
theorem d_L_curves_9 : decode method_6_code 9 = .ok (.goto 6, 3) := by decide +kernel
theorem d_L_curves_12 : decode method_6_code 12 = .ok (.astore_n 3, 1) := by decide +kernel
theorem d_L_curves_13 : decode method_6_code 13 = .ok (.iconst 1, 1) := by decide +kernel
theorem d_L_curves_14 : decode method_6_code 14 = .ok (.ireturn, 1) := by decide +kernel
theorem d_L_curves_15 : decode method_6_code 15 = .ok (.iconst 0, 1) := by decide +kernel
theorem d_L_curves_16 : decode method_6_code 16 = .ok (.ireturn, 1) := by decide +kernel
theorem d_L_cell_0 : decode method_7_code 0 = .ok (.aload_n 3, 1) := by decide +kernel
theorem d_L_cell_1 : decode method_7_code 1 = .ok (.iconst 0, 1) := by decide +kernel
theorem d_L_cell_2 : decode method_7_code 2 = .ok (.aload_n 0, 1) := by decide +kernel
theorem d_L_cell_3 : decode method_7_code 3 = .ok (.iload_n 1, 1) := by decide +kernel
theorem d_L_cell_4 : decode method_7_code 4 = .ok (.iload_n 2, 1) := by decide +kernel
theorem d_L_cell_5 : decode method_7_code 5 = .ok (.invokevirtual 31, 3) := by decide +kernel
theorem d_L_cell_8 : decode method_7_code 8 = .ok (.i2l, 1) := by decide +kernel
theorem d_L_cell_9 : decode method_7_code 9 = .ok (.lastore, 1) := by decide +kernel
theorem d_L_cell_10 : decode method_7_code 10 = .ok (.goto 11, 3) := by decide +kernel
theorem d_L_cell_13 : decode method_7_code 13 = .ok (.astore 4, 2) := by decide +kernel
theorem d_L_cell_15 : decode method_7_code 15 = .ok (.iconst 1, 1) := by decide +kernel
theorem d_L_cell_16 : decode method_7_code 16 = .ok (.ireturn, 1) := by decide +kernel
theorem d_L_cell_17 : decode method_7_code 17 = .ok (.astore 4, 2) := by decide +kernel
theorem d_L_cell_19 : decode method_7_code 19 = .ok (.iconst 2, 1) := by decide +kernel
theorem d_L_cell_20 : decode method_7_code 20 = .ok (.ireturn, 1) := by decide +kernel
theorem d_L_cell_21 : decode method_7_code 21 = .ok (.iconst 0, 1) := by decide +kernel
theorem d_L_cell_22 : decode method_7_code 22 = .ok (.ireturn, 1) := by decide +kernel
theorem d_L_sample_0 : decode method_8_code 0 = .ok (.aload 4, 2) := by decide +kernel
theorem d_L_sample_2 : decode method_8_code 2 = .ok (.iconst 0, 1) := by decide +kernel
theorem d_L_sample_3 : decode method_8_code 3 = .ok (.aload_n 0, 1) := by decide +kernel
theorem d_L_sample_4 : decode method_8_code 4 = .ok (.iload_n 1, 1) := by decide +kernel
theorem d_L_sample_5 : decode method_8_code 5 = .ok (.iload_n 2, 1) := by decide +kernel
theorem d_L_sample_6 : decode method_8_code 6 = .ok (.iload_n 3, 1) := by decide +kernel
theorem d_L_sample_7 : decode method_8_code 7 = .ok (.invokevirtual 35, 3) := by decide +kernel
theorem d_L_sample_10 : decode method_8_code 10 = .ok (.lastore, 1) := by decide +kernel
theorem d_L_sample_11 : decode method_8_code 11 = .ok (.goto 11, 3) := by decide +kernel
theorem d_L_sample_14 : decode method_8_code 14 = .ok (.astore 5, 2) := by decide +kernel
theorem d_L_sample_16 : decode method_8_code 16 = .ok (.iconst 1, 1) := by decide +kernel
theorem d_L_sample_17 : decode method_8_code 17 = .ok (.ireturn, 1) := by decide +kernel
theorem d_L_sample_18 : decode method_8_code 18 = .ok (.astore 5, 2) := by decide +kernel
theorem d_L_sample_20 : decode method_8_code 20 = .ok (.iconst 2, 1) := by decide +kernel
theorem d_L_sample_21 : decode method_8_code 21 = .ok (.ireturn, 1) := by decide +kernel
theorem d_L_sample_22 : decode method_8_code 22 = .ok (.iconst 0, 1) := by decide +kernel
theorem d_L_sample_23 : decode method_8_code 23 = .ok (.ireturn, 1) := by decide +kernel
theorem d_L_sign_0 : decode method_9_code 0 = .ok (.aload_n 3, 1) := by decide +kernel
theorem d_L_sign_1 : decode method_9_code 1 = .ok (.iconst 0, 1) := by decide +kernel
theorem d_L_sign_2 : decode method_9_code 2 = .ok (.aload_n 0, 1) := by decide +kernel
theorem d_L_sign_3 : decode method_9_code 3 = .ok (.iload_n 1, 1) := by decide +kernel
theorem d_L_sign_4 : decode method_9_code 4 = .ok (.iload_n 2, 1) := by decide +kernel
theorem d_L_sign_5 : decode method_9_code 5 = .ok (.invokevirtual 39, 3) := by decide +kernel
theorem d_L_sign_8 : decode method_9_code 8 = .ok (.i2l, 1) := by decide +kernel
theorem d_L_sign_9 : decode method_9_code 9 = .ok (.lastore, 1) := by decide +kernel
theorem d_L_sign_10 : decode method_9_code 10 = .ok (.goto 7, 3) := by decide +kernel
theorem d_L_sign_13 : decode method_9_code 13 = .ok (.astore 4, 2) := by decide +kernel
theorem d_L_sign_15 : decode method_9_code 15 = .ok (.iconst 1, 1) := by decide +kernel
theorem d_L_sign_16 : decode method_9_code 16 = .ok (.ireturn, 1) := by decide +kernel
theorem d_L_sign_17 : decode method_9_code 17 = .ok (.iconst 0, 1) := by decide +kernel
theorem d_L_sign_18 : decode method_9_code 18 = .ok (.ireturn, 1) := by decide +kernel
theorem d_L_at_0 : decode method_10_code 0 = .ok (.aload 5, 2) := by decide +kernel
theorem d_L_at_2 : decode method_10_code 2 = .ok (.iconst 0, 1) := by decide +kernel
theorem d_L_at_3 : decode method_10_code 3 = .ok (.aload_n 0, 1) := by decide +kernel
theorem d_L_at_4 : decode method_10_code 4 = .ok (.iload_n 1, 1) := by decide +kernel
theorem d_L_at_5 : decode method_10_code 5 = .ok (.iload_n 2, 1) := by decide +kernel
theorem d_L_at_6 : decode method_10_code 6 = .ok (.iload_n 3, 1) := by decide +kernel
theorem d_L_at_7 : decode method_10_code 7 = .ok (.iload 4, 2) := by decide +kernel
theorem d_L_at_9 : decode method_10_code 9 = .ok (.invokevirtual 42, 3) := by decide +kernel
theorem d_L_at_12 : decode method_10_code 12 = .ok (.i2l, 1) := by decide +kernel
theorem d_L_at_13 : decode method_10_code 13 = .ok (.lastore, 1) := by decide +kernel
theorem d_L_at_14 : decode method_10_code 14 = .ok (.goto 7, 3) := by decide +kernel
theorem d_L_at_17 : decode method_10_code 17 = .ok (.astore 6, 2) := by decide +kernel
theorem d_L_at_19 : decode method_10_code 19 = .ok (.iconst 1, 1) := by decide +kernel
theorem d_L_at_20 : decode method_10_code 20 = .ok (.ireturn, 1) := by decide +kernel
theorem d_L_at_21 : decode method_10_code 21 = .ok (.iconst 0, 1) := by decide +kernel
theorem d_L_at_22 : decode method_10_code 22 = .ok (.ireturn, 1) := by decide +kernel
theorem d_L_touch_0 : decode method_11_code 0 = .ok (.aload_n 3, 1) := by decide +kernel
theorem d_L_touch_1 : decode method_11_code 1 = .ok (.iconst 0, 1) := by decide +kernel
theorem d_L_touch_2 : decode method_11_code 2 = .ok (.aload_n 0, 1) := by decide +kernel
theorem d_L_touch_3 : decode method_11_code 3 = .ok (.iload_n 1, 1) := by decide +kernel
theorem d_L_touch_4 : decode method_11_code 4 = .ok (.iload_n 2, 1) := by decide +kernel
theorem d_L_touch_5 : decode method_11_code 5 = .ok (.invokevirtual 46, 3) := by decide +kernel
theorem d_L_touch_8 : decode method_11_code 8 = .ok (.ifCond .eq 7, 3) := by decide +kernel
theorem d_L_touch_11 : decode method_11_code 11 = .ok (.lconst 1, 1) := by decide +kernel
theorem d_L_touch_12 : decode method_11_code 12 = .ok (.goto 4, 3) := by decide +kernel
theorem d_L_touch_15 : decode method_11_code 15 = .ok (.lconst 0, 1) := by decide +kernel
theorem d_L_touch_16 : decode method_11_code 16 = .ok (.lastore, 1) := by decide +kernel
theorem d_L_touch_17 : decode method_11_code 17 = .ok (.goto 7, 3) := by decide +kernel
theorem d_L_touch_20 : decode method_11_code 20 = .ok (.astore 4, 2) := by decide +kernel
theorem d_L_touch_22 : decode method_11_code 22 = .ok (.iconst 1, 1) := by decide +kernel
theorem d_L_touch_23 : decode method_11_code 23 = .ok (.ireturn, 1) := by decide +kernel
theorem d_L_touch_24 : decode method_11_code 24 = .ok (.iconst 0, 1) := by decide +kernel
theorem d_L_touch_25 : decode method_11_code 25 = .ok (.ireturn, 1) := by decide +kernel
theorem d_L_law_0 : decode code 0 = .ok (.new 8, 3) := by decide +kernel
theorem d_L_law_3 : decode code 3 = .ok (.dup, 1) := by decide +kernel
theorem d_L_law_4 : decode code 4 = .ok (.invokespecial 50, 3) := by decide +kernel
theorem d_L_law_7 : decode code 7 = .ok (.astore_n 1, 1) := by decide +kernel
theorem d_L_law_8 : decode code 8 = .ok (.new 51, 3) := by decide +kernel
theorem d_L_law_11 : decode code 11 = .ok (.dup, 1) := by decide +kernel
theorem d_L_law_12 : decode code 12 = .ok (.invokespecial 53, 3) := by decide +kernel
theorem d_L_law_15 : decode code 15 = .ok (.astore_n 2, 1) := by decide +kernel
theorem d_L_law_16 : decode code 16 = .ok (.iconst 1, 1) := by decide +kernel
theorem d_L_law_17 : decode code 17 = .ok (.newarray .long, 2) := by decide +kernel
theorem d_L_law_19 : decode code 19 = .ok (.astore_n 3, 1) := by decide +kernel
theorem d_L_law_20 : decode code 20 = .ok (.iconst 0, 1) := by decide +kernel
theorem d_L_law_21 : decode code 21 = .ok (.istore 4, 2) := by decide +kernel
theorem d_L_law_23 : decode code 23 = .ok (.iload 4, 2) := by decide +kernel
theorem d_L_law_25 : decode code 25 = .ok (.aload_n 0, 1) := by decide +kernel
theorem d_L_law_26 : decode code 26 = .ok (.arraylength, 1) := by decide +kernel
theorem d_L_law_27 : decode code 27 = .ok (.iconst 5, 1) := by decide +kernel
theorem d_L_law_28 : decode code 28 = .ok (.isub, 1) := by decide +kernel
theorem d_L_law_29 : decode code 29 = .ok (.if_icmp .gt 766, 3) := by decide +kernel
theorem d_L_law_32 : decode code 32 = .ok (.aload_n 0, 1) := by decide +kernel
theorem d_L_law_33 : decode code 33 = .ok (.iload 4, 2) := by decide +kernel
theorem d_L_law_35 : decode code 35 = .ok (.iaload, 1) := by decide +kernel
theorem d_L_law_36 : decode code 36 = .ok (.bipush 15, 2) := by decide +kernel
theorem d_L_law_38 : decode code 38 = .ok (.iand, 1) := by decide +kernel
theorem d_L_law_39 : decode code 39 = .ok (.tableswitch 750 0 12 #[65, 145, 181, 194, 261, 317, 330, 398, 477, 545, 637, 662, 737], 65) := by decide +kernel
theorem d_L_law_104 : decode code 104 = .ok (.aload_n 1, 1) := by decide +kernel
theorem d_L_law_105 : decode code 105 = .ok (.aload_n 0, 1) := by decide +kernel
theorem d_L_law_106 : decode code 106 = .ok (.iload 4, 2) := by decide +kernel
theorem d_L_law_108 : decode code 108 = .ok (.iconst 1, 1) := by decide +kernel
theorem d_L_law_109 : decode code 109 = .ok (.iadd, 1) := by decide +kernel
theorem d_L_law_110 : decode code 110 = .ok (.iaload, 1) := by decide +kernel
theorem d_L_law_111 : decode code 111 = .ok (.aload_n 0, 1) := by decide +kernel
theorem d_L_law_112 : decode code 112 = .ok (.iload 4, 2) := by decide +kernel
theorem d_L_law_114 : decode code 114 = .ok (.iconst 2, 1) := by decide +kernel
theorem d_L_law_115 : decode code 115 = .ok (.iadd, 1) := by decide +kernel
theorem d_L_law_116 : decode code 116 = .ok (.iaload, 1) := by decide +kernel
theorem d_L_law_117 : decode code 117 = .ok (.aload_n 0, 1) := by decide +kernel
theorem d_L_law_118 : decode code 118 = .ok (.iload 4, 2) := by decide +kernel
theorem d_L_law_120 : decode code 120 = .ok (.iconst 3, 1) := by decide +kernel
theorem d_L_law_121 : decode code 121 = .ok (.iadd, 1) := by decide +kernel
theorem d_L_law_122 : decode code 122 = .ok (.iaload, 1) := by decide +kernel
theorem d_L_law_123 : decode code 123 = .ok (.aload_n 3, 1) := by decide +kernel
theorem d_L_law_124 : decode code 124 = .ok (.invokestatic 54, 3) := by decide +kernel
theorem d_L_law_127 : decode code 127 = .ok (.istore 5, 2) := by decide +kernel
theorem d_L_law_129 : decode code 129 = .ok (.aload_n 2, 1) := by decide +kernel
theorem d_L_law_130 : decode code 130 = .ok (.aload_n 0, 1) := by decide +kernel
theorem d_L_law_131 : decode code 131 = .ok (.iload 4, 2) := by decide +kernel
theorem d_L_law_133 : decode code 133 = .ok (.iconst 1, 1) := by decide +kernel
theorem d_L_law_134 : decode code 134 = .ok (.iadd, 1) := by decide +kernel
theorem d_L_law_135 : decode code 135 = .ok (.iaload, 1) := by decide +kernel
theorem d_L_law_136 : decode code 136 = .ok (.aload_n 0, 1) := by decide +kernel
theorem d_L_law_137 : decode code 137 = .ok (.iload 4, 2) := by decide +kernel
theorem d_L_law_139 : decode code 139 = .ok (.iconst 2, 1) := by decide +kernel
theorem d_L_law_140 : decode code 140 = .ok (.iadd, 1) := by decide +kernel
theorem d_L_law_141 : decode code 141 = .ok (.iaload, 1) := by decide +kernel
theorem d_L_law_142 : decode code 142 = .ok (.aload_n 0, 1) := by decide +kernel
theorem d_L_law_143 : decode code 143 = .ok (.iload 4, 2) := by decide +kernel
theorem d_L_law_145 : decode code 145 = .ok (.iconst 3, 1) := by decide +kernel
theorem d_L_law_146 : decode code 146 = .ok (.iadd, 1) := by decide +kernel
theorem d_L_law_147 : decode code 147 = .ok (.iaload, 1) := by decide +kernel
theorem d_L_law_148 : decode code 148 = .ok (.invokevirtual 59, 3) := by decide +kernel
theorem d_L_law_151 : decode code 151 = .ok (.istore 6, 2) := by decide +kernel
theorem d_L_law_153 : decode code 153 = .ok (.aload_n 2, 1) := by decide +kernel
theorem d_L_law_154 : decode code 154 = .ok (.invokevirtual 60, 3) := by decide +kernel
theorem d_L_law_157 : decode code 157 = .ok (.iload 5, 2) := by decide +kernel
theorem d_L_law_159 : decode code 159 = .ok (.if_icmp .eq 5, 3) := by decide +kernel
theorem d_L_law_162 : decode code 162 = .ok (.iconst 0, 1) := by decide +kernel
theorem d_L_law_163 : decode code 163 = .ok (.ireturn, 1) := by decide +kernel
theorem d_L_law_164 : decode code 164 = .ok (.iload 5, 2) := by decide +kernel
theorem d_L_law_166 : decode code 166 = .ok (.ifCond .ne 15, 3) := by decide +kernel
theorem d_L_law_169 : decode code 169 = .ok (.aload_n 3, 1) := by decide +kernel
theorem d_L_law_170 : decode code 170 = .ok (.iconst 0, 1) := by decide +kernel
theorem d_L_law_171 : decode code 171 = .ok (.laload, 1) := by decide +kernel
theorem d_L_law_172 : decode code 172 = .ok (.iload 6, 2) := by decide +kernel
theorem d_L_law_174 : decode code 174 = .ok (.i2l, 1) := by decide +kernel
theorem d_L_law_175 : decode code 175 = .ok (.lcmp, 1) := by decide +kernel
theorem d_L_law_176 : decode code 176 = .ok (.ifCond .eq 5, 3) := by decide +kernel
theorem d_L_law_179 : decode code 179 = .ok (.iconst 0, 1) := by decide +kernel
theorem d_L_law_180 : decode code 180 = .ok (.ireturn, 1) := by decide +kernel
theorem d_L_law_181 : decode code 181 = .ok (.goto 608, 3) := by decide +kernel
theorem d_L_law_184 : decode code 184 = .ok (.aload_n 1, 1) := by decide +kernel
theorem d_L_law_185 : decode code 185 = .ok (.aload_n 0, 1) := by decide +kernel
theorem d_L_law_186 : decode code 186 = .ok (.iload 4, 2) := by decide +kernel
theorem d_L_law_188 : decode code 188 = .ok (.iconst 1, 1) := by decide +kernel
theorem d_L_law_189 : decode code 189 = .ok (.iadd, 1) := by decide +kernel
theorem d_L_law_190 : decode code 190 = .ok (.iaload, 1) := by decide +kernel
theorem d_L_law_191 : decode code 191 = .ok (.invokestatic 64, 3) := by decide +kernel
theorem d_L_law_194 : decode code 194 = .ok (.istore 5, 2) := by decide +kernel
theorem d_L_law_196 : decode code 196 = .ok (.aload_n 2, 1) := by decide +kernel
theorem d_L_law_197 : decode code 197 = .ok (.aload_n 0, 1) := by decide +kernel
theorem d_L_law_198 : decode code 198 = .ok (.iload 4, 2) := by decide +kernel
theorem d_L_law_200 : decode code 200 = .ok (.iconst 1, 1) := by decide +kernel
theorem d_L_law_201 : decode code 201 = .ok (.iadd, 1) := by decide +kernel
theorem d_L_law_202 : decode code 202 = .ok (.iaload, 1) := by decide +kernel
theorem d_L_law_203 : decode code 203 = .ok (.invokevirtual 67, 3) := by decide +kernel
theorem d_L_law_206 : decode code 206 = .ok (.aload_n 2, 1) := by decide +kernel
theorem d_L_law_207 : decode code 207 = .ok (.invokevirtual 60, 3) := by decide +kernel
theorem d_L_law_210 : decode code 210 = .ok (.iload 5, 2) := by decide +kernel
theorem d_L_law_212 : decode code 212 = .ok (.if_icmp .eq 5, 3) := by decide +kernel
theorem d_L_law_215 : decode code 215 = .ok (.iconst 0, 1) := by decide +kernel
theorem d_L_law_216 : decode code 216 = .ok (.ireturn, 1) := by decide +kernel
theorem d_L_law_217 : decode code 217 = .ok (.goto 572, 3) := by decide +kernel
theorem d_L_law_220 : decode code 220 = .ok (.aload_n 1, 1) := by decide +kernel
theorem d_L_law_221 : decode code 221 = .ok (.invokevirtual 68, 3) := by decide +kernel
theorem d_L_law_224 : decode code 224 = .ok (.aload_n 2, 1) := by decide +kernel
theorem d_L_law_225 : decode code 225 = .ok (.invokevirtual 71, 3) := by decide +kernel
theorem d_L_law_228 : decode code 228 = .ok (.if_icmp .eq 561, 3) := by decide +kernel
theorem d_L_law_231 : decode code 231 = .ok (.iconst 0, 1) := by decide +kernel
theorem d_L_law_232 : decode code 232 = .ok (.ireturn, 1) := by decide +kernel
theorem d_L_law_233 : decode code 233 = .ok (.aload_n 1, 1) := by decide +kernel
theorem d_L_law_234 : decode code 234 = .ok (.aload_n 0, 1) := by decide +kernel
theorem d_L_law_235 : decode code 235 = .ok (.iload 4, 2) := by decide +kernel
theorem d_L_law_237 : decode code 237 = .ok (.iconst 1, 1) := by decide +kernel
theorem d_L_law_238 : decode code 238 = .ok (.iadd, 1) := by decide +kernel
theorem d_L_law_239 : decode code 239 = .ok (.iaload, 1) := by decide +kernel
theorem d_L_law_240 : decode code 240 = .ok (.aload_n 0, 1) := by decide +kernel
theorem d_L_law_241 : decode code 241 = .ok (.iload 4, 2) := by decide +kernel
theorem d_L_law_243 : decode code 243 = .ok (.iconst 2, 1) := by decide +kernel
theorem d_L_law_244 : decode code 244 = .ok (.iadd, 1) := by decide +kernel
theorem d_L_law_245 : decode code 245 = .ok (.iaload, 1) := by decide +kernel
theorem d_L_law_246 : decode code 246 = .ok (.aload_n 3, 1) := by decide +kernel
theorem d_L_law_247 : decode code 247 = .ok (.invokestatic 72, 3) := by decide +kernel
theorem d_L_law_250 : decode code 250 = .ok (.istore 5, 2) := by decide +kernel
theorem d_L_law_252 : decode code 252 = .ok (.aload_n 2, 1) := by decide +kernel
theorem d_L_law_253 : decode code 253 = .ok (.aload_n 0, 1) := by decide +kernel
theorem d_L_law_254 : decode code 254 = .ok (.iload 4, 2) := by decide +kernel
theorem d_L_law_256 : decode code 256 = .ok (.iconst 1, 1) := by decide +kernel
theorem d_L_law_257 : decode code 257 = .ok (.iadd, 1) := by decide +kernel
theorem d_L_law_258 : decode code 258 = .ok (.iaload, 1) := by decide +kernel
theorem d_L_law_259 : decode code 259 = .ok (.aload_n 0, 1) := by decide +kernel
theorem d_L_law_260 : decode code 260 = .ok (.iload 4, 2) := by decide +kernel
theorem d_L_law_262 : decode code 262 = .ok (.iconst 2, 1) := by decide +kernel
theorem d_L_law_263 : decode code 263 = .ok (.iadd, 1) := by decide +kernel
theorem d_L_law_264 : decode code 264 = .ok (.iaload, 1) := by decide +kernel
theorem d_L_law_265 : decode code 265 = .ok (.invokevirtual 75, 3) := by decide +kernel
theorem d_L_law_268 : decode code 268 = .ok (.lstore 6, 2) := by decide +kernel
theorem d_L_law_270 : decode code 270 = .ok (.aload_n 2, 1) := by decide +kernel
theorem d_L_law_271 : decode code 271 = .ok (.invokevirtual 60, 3) := by decide +kernel
theorem d_L_law_274 : decode code 274 = .ok (.iload 5, 2) := by decide +kernel
theorem d_L_law_276 : decode code 276 = .ok (.if_icmp .eq 5, 3) := by decide +kernel
theorem d_L_law_279 : decode code 279 = .ok (.iconst 0, 1) := by decide +kernel
theorem d_L_law_280 : decode code 280 = .ok (.ireturn, 1) := by decide +kernel
theorem d_L_law_281 : decode code 281 = .ok (.iload 5, 2) := by decide +kernel
theorem d_L_law_283 : decode code 283 = .ok (.ifCond .ne 14, 3) := by decide +kernel
theorem d_L_law_286 : decode code 286 = .ok (.aload_n 3, 1) := by decide +kernel
theorem d_L_law_287 : decode code 287 = .ok (.iconst 0, 1) := by decide +kernel
theorem d_L_law_288 : decode code 288 = .ok (.laload, 1) := by decide +kernel
theorem d_L_law_289 : decode code 289 = .ok (.lload 6, 2) := by decide +kernel
theorem d_L_law_291 : decode code 291 = .ok (.lcmp, 1) := by decide +kernel
theorem d_L_law_292 : decode code 292 = .ok (.ifCond .eq 5, 3) := by decide +kernel
theorem d_L_law_295 : decode code 295 = .ok (.iconst 0, 1) := by decide +kernel
theorem d_L_law_296 : decode code 296 = .ok (.ireturn, 1) := by decide +kernel
theorem d_L_law_297 : decode code 297 = .ok (.goto 492, 3) := by decide +kernel
theorem d_L_law_300 : decode code 300 = .ok (.aload_n 1, 1) := by decide +kernel
theorem d_L_law_301 : decode code 301 = .ok (.aload_n 0, 1) := by decide +kernel
theorem d_L_law_302 : decode code 302 = .ok (.iload 4, 2) := by decide +kernel
theorem d_L_law_304 : decode code 304 = .ok (.iconst 1, 1) := by decide +kernel
theorem d_L_law_305 : decode code 305 = .ok (.iadd, 1) := by decide +kernel
theorem d_L_law_306 : decode code 306 = .ok (.iaload, 1) := by decide +kernel
theorem d_L_law_307 : decode code 307 = .ok (.aload_n 3, 1) := by decide +kernel
theorem d_L_law_308 : decode code 308 = .ok (.invokestatic 76, 3) := by decide +kernel
theorem d_L_law_311 : decode code 311 = .ok (.istore 5, 2) := by decide +kernel
theorem d_L_law_313 : decode code 313 = .ok (.aload_n 2, 1) := by decide +kernel
theorem d_L_law_314 : decode code 314 = .ok (.aload_n 0, 1) := by decide +kernel
theorem d_L_law_315 : decode code 315 = .ok (.iload 4, 2) := by decide +kernel
theorem d_L_law_317 : decode code 317 = .ok (.iconst 1, 1) := by decide +kernel
theorem d_L_law_318 : decode code 318 = .ok (.iadd, 1) := by decide +kernel
theorem d_L_law_319 : decode code 319 = .ok (.iaload, 1) := by decide +kernel
theorem d_L_law_320 : decode code 320 = .ok (.invokevirtual 79, 3) := by decide +kernel
theorem d_L_law_323 : decode code 323 = .ok (.istore 6, 2) := by decide +kernel
theorem d_L_law_325 : decode code 325 = .ok (.aload_n 2, 1) := by decide +kernel
theorem d_L_law_326 : decode code 326 = .ok (.invokevirtual 60, 3) := by decide +kernel
theorem d_L_law_329 : decode code 329 = .ok (.iload 5, 2) := by decide +kernel
theorem d_L_law_331 : decode code 331 = .ok (.if_icmp .eq 5, 3) := by decide +kernel
theorem d_L_law_334 : decode code 334 = .ok (.iconst 0, 1) := by decide +kernel
theorem d_L_law_335 : decode code 335 = .ok (.ireturn, 1) := by decide +kernel
theorem d_L_law_336 : decode code 336 = .ok (.iload 5, 2) := by decide +kernel
theorem d_L_law_338 : decode code 338 = .ok (.ifCond .ne 15, 3) := by decide +kernel
theorem d_L_law_341 : decode code 341 = .ok (.aload_n 3, 1) := by decide +kernel
theorem d_L_law_342 : decode code 342 = .ok (.iconst 0, 1) := by decide +kernel
theorem d_L_law_343 : decode code 343 = .ok (.laload, 1) := by decide +kernel
theorem d_L_law_344 : decode code 344 = .ok (.iload 6, 2) := by decide +kernel
theorem d_L_law_346 : decode code 346 = .ok (.i2l, 1) := by decide +kernel
theorem d_L_law_347 : decode code 347 = .ok (.lcmp, 1) := by decide +kernel
theorem d_L_law_348 : decode code 348 = .ok (.ifCond .eq 5, 3) := by decide +kernel
theorem d_L_law_351 : decode code 351 = .ok (.iconst 0, 1) := by decide +kernel
theorem d_L_law_352 : decode code 352 = .ok (.ireturn, 1) := by decide +kernel
theorem d_L_law_353 : decode code 353 = .ok (.goto 436, 3) := by decide +kernel
theorem d_L_law_356 : decode code 356 = .ok (.aload_n 1, 1) := by decide +kernel
theorem d_L_law_357 : decode code 357 = .ok (.invokevirtual 80, 3) := by decide +kernel
theorem d_L_law_360 : decode code 360 = .ok (.aload_n 2, 1) := by decide +kernel
theorem d_L_law_361 : decode code 361 = .ok (.invokevirtual 83, 3) := by decide +kernel
theorem d_L_law_364 : decode code 364 = .ok (.if_icmp .eq 425, 3) := by decide +kernel
theorem d_L_law_367 : decode code 367 = .ok (.iconst 0, 1) := by decide +kernel
theorem d_L_law_368 : decode code 368 = .ok (.ireturn, 1) := by decide +kernel
theorem d_L_law_369 : decode code 369 = .ok (.aload_n 1, 1) := by decide +kernel
theorem d_L_law_370 : decode code 370 = .ok (.aload_n 0, 1) := by decide +kernel
theorem d_L_law_371 : decode code 371 = .ok (.iload 4, 2) := by decide +kernel
theorem d_L_law_373 : decode code 373 = .ok (.iconst 1, 1) := by decide +kernel
theorem d_L_law_374 : decode code 374 = .ok (.iadd, 1) := by decide +kernel
theorem d_L_law_375 : decode code 375 = .ok (.iaload, 1) := by decide +kernel
theorem d_L_law_376 : decode code 376 = .ok (.aload_n 0, 1) := by decide +kernel
theorem d_L_law_377 : decode code 377 = .ok (.iload 4, 2) := by decide +kernel
theorem d_L_law_379 : decode code 379 = .ok (.iconst 2, 1) := by decide +kernel
theorem d_L_law_380 : decode code 380 = .ok (.iadd, 1) := by decide +kernel
theorem d_L_law_381 : decode code 381 = .ok (.iaload, 1) := by decide +kernel
theorem d_L_law_382 : decode code 382 = .ok (.aload_n 3, 1) := by decide +kernel
theorem d_L_law_383 : decode code 383 = .ok (.invokestatic 84, 3) := by decide +kernel
theorem d_L_law_386 : decode code 386 = .ok (.istore 5, 2) := by decide +kernel
theorem d_L_law_388 : decode code 388 = .ok (.aload_n 2, 1) := by decide +kernel
theorem d_L_law_389 : decode code 389 = .ok (.aload_n 0, 1) := by decide +kernel
theorem d_L_law_390 : decode code 390 = .ok (.iload 4, 2) := by decide +kernel
theorem d_L_law_392 : decode code 392 = .ok (.iconst 1, 1) := by decide +kernel
theorem d_L_law_393 : decode code 393 = .ok (.iadd, 1) := by decide +kernel
theorem d_L_law_394 : decode code 394 = .ok (.iaload, 1) := by decide +kernel
theorem d_L_law_395 : decode code 395 = .ok (.aload_n 0, 1) := by decide +kernel
theorem d_L_law_396 : decode code 396 = .ok (.iload 4, 2) := by decide +kernel
theorem d_L_law_398 : decode code 398 = .ok (.iconst 2, 1) := by decide +kernel
theorem d_L_law_399 : decode code 399 = .ok (.iadd, 1) := by decide +kernel
theorem d_L_law_400 : decode code 400 = .ok (.iaload, 1) := by decide +kernel
theorem d_L_law_401 : decode code 401 = .ok (.invokevirtual 86, 3) := by decide +kernel
theorem d_L_law_404 : decode code 404 = .ok (.istore 6, 2) := by decide +kernel
theorem d_L_law_406 : decode code 406 = .ok (.aload_n 2, 1) := by decide +kernel
theorem d_L_law_407 : decode code 407 = .ok (.invokevirtual 60, 3) := by decide +kernel
theorem d_L_law_410 : decode code 410 = .ok (.iload 5, 2) := by decide +kernel
theorem d_L_law_412 : decode code 412 = .ok (.if_icmp .eq 5, 3) := by decide +kernel
theorem d_L_law_415 : decode code 415 = .ok (.iconst 0, 1) := by decide +kernel
theorem d_L_law_416 : decode code 416 = .ok (.ireturn, 1) := by decide +kernel
theorem d_L_law_417 : decode code 417 = .ok (.iload 5, 2) := by decide +kernel
theorem d_L_law_419 : decode code 419 = .ok (.ifCond .ne 15, 3) := by decide +kernel
theorem d_L_law_422 : decode code 422 = .ok (.aload_n 3, 1) := by decide +kernel
theorem d_L_law_423 : decode code 423 = .ok (.iconst 0, 1) := by decide +kernel
theorem d_L_law_424 : decode code 424 = .ok (.laload, 1) := by decide +kernel
theorem d_L_law_425 : decode code 425 = .ok (.iload 6, 2) := by decide +kernel
theorem d_L_law_427 : decode code 427 = .ok (.i2l, 1) := by decide +kernel
theorem d_L_law_428 : decode code 428 = .ok (.lcmp, 1) := by decide +kernel
theorem d_L_law_429 : decode code 429 = .ok (.ifCond .eq 5, 3) := by decide +kernel
theorem d_L_law_432 : decode code 432 = .ok (.iconst 0, 1) := by decide +kernel
theorem d_L_law_433 : decode code 433 = .ok (.ireturn, 1) := by decide +kernel
theorem d_L_law_434 : decode code 434 = .ok (.goto 355, 3) := by decide +kernel
theorem d_L_law_437 : decode code 437 = .ok (.aload_n 1, 1) := by decide +kernel
theorem d_L_law_438 : decode code 438 = .ok (.aload_n 0, 1) := by decide +kernel
theorem d_L_law_439 : decode code 439 = .ok (.iload 4, 2) := by decide +kernel
theorem d_L_law_441 : decode code 441 = .ok (.iconst 1, 1) := by decide +kernel
theorem d_L_law_442 : decode code 442 = .ok (.iadd, 1) := by decide +kernel
theorem d_L_law_443 : decode code 443 = .ok (.iaload, 1) := by decide +kernel
theorem d_L_law_444 : decode code 444 = .ok (.aload_n 0, 1) := by decide +kernel
theorem d_L_law_445 : decode code 445 = .ok (.iload 4, 2) := by decide +kernel
theorem d_L_law_447 : decode code 447 = .ok (.iconst 2, 1) := by decide +kernel
theorem d_L_law_448 : decode code 448 = .ok (.iadd, 1) := by decide +kernel
theorem d_L_law_449 : decode code 449 = .ok (.iaload, 1) := by decide +kernel
theorem d_L_law_450 : decode code 450 = .ok (.aload_n 0, 1) := by decide +kernel
theorem d_L_law_451 : decode code 451 = .ok (.iload 4, 2) := by decide +kernel
theorem d_L_law_453 : decode code 453 = .ok (.iconst 3, 1) := by decide +kernel
theorem d_L_law_454 : decode code 454 = .ok (.iadd, 1) := by decide +kernel
theorem d_L_law_455 : decode code 455 = .ok (.iaload, 1) := by decide +kernel
theorem d_L_law_456 : decode code 456 = .ok (.aload_n 3, 1) := by decide +kernel
theorem d_L_law_457 : decode code 457 = .ok (.invokestatic 87, 3) := by decide +kernel
theorem d_L_law_460 : decode code 460 = .ok (.istore 5, 2) := by decide +kernel
theorem d_L_law_462 : decode code 462 = .ok (.aload_n 2, 1) := by decide +kernel
theorem d_L_law_463 : decode code 463 = .ok (.aload_n 0, 1) := by decide +kernel
theorem d_L_law_464 : decode code 464 = .ok (.iload 4, 2) := by decide +kernel
theorem d_L_law_466 : decode code 466 = .ok (.iconst 1, 1) := by decide +kernel
theorem d_L_law_467 : decode code 467 = .ok (.iadd, 1) := by decide +kernel
theorem d_L_law_468 : decode code 468 = .ok (.iaload, 1) := by decide +kernel
theorem d_L_law_469 : decode code 469 = .ok (.aload_n 0, 1) := by decide +kernel
theorem d_L_law_470 : decode code 470 = .ok (.iload 4, 2) := by decide +kernel
theorem d_L_law_472 : decode code 472 = .ok (.iconst 2, 1) := by decide +kernel
theorem d_L_law_473 : decode code 473 = .ok (.iadd, 1) := by decide +kernel
theorem d_L_law_474 : decode code 474 = .ok (.iaload, 1) := by decide +kernel
theorem d_L_law_475 : decode code 475 = .ok (.aload_n 0, 1) := by decide +kernel
theorem d_L_law_476 : decode code 476 = .ok (.iload 4, 2) := by decide +kernel
theorem d_L_law_478 : decode code 478 = .ok (.iconst 3, 1) := by decide +kernel
theorem d_L_law_479 : decode code 479 = .ok (.iadd, 1) := by decide +kernel
theorem d_L_law_480 : decode code 480 = .ok (.iaload, 1) := by decide +kernel
theorem d_L_law_481 : decode code 481 = .ok (.invokevirtual 89, 3) := by decide +kernel
theorem d_L_law_484 : decode code 484 = .ok (.lstore 6, 2) := by decide +kernel
theorem d_L_law_486 : decode code 486 = .ok (.aload_n 2, 1) := by decide +kernel
theorem d_L_law_487 : decode code 487 = .ok (.invokevirtual 60, 3) := by decide +kernel
theorem d_L_law_490 : decode code 490 = .ok (.iload 5, 2) := by decide +kernel
theorem d_L_law_492 : decode code 492 = .ok (.if_icmp .eq 5, 3) := by decide +kernel
theorem d_L_law_495 : decode code 495 = .ok (.iconst 0, 1) := by decide +kernel
theorem d_L_law_496 : decode code 496 = .ok (.ireturn, 1) := by decide +kernel
theorem d_L_law_497 : decode code 497 = .ok (.iload 5, 2) := by decide +kernel
theorem d_L_law_499 : decode code 499 = .ok (.ifCond .ne 14, 3) := by decide +kernel
theorem d_L_law_502 : decode code 502 = .ok (.aload_n 3, 1) := by decide +kernel
theorem d_L_law_503 : decode code 503 = .ok (.iconst 0, 1) := by decide +kernel
theorem d_L_law_504 : decode code 504 = .ok (.laload, 1) := by decide +kernel
theorem d_L_law_505 : decode code 505 = .ok (.lload 6, 2) := by decide +kernel
theorem d_L_law_507 : decode code 507 = .ok (.lcmp, 1) := by decide +kernel
theorem d_L_law_508 : decode code 508 = .ok (.ifCond .eq 5, 3) := by decide +kernel
theorem d_L_law_511 : decode code 511 = .ok (.iconst 0, 1) := by decide +kernel
theorem d_L_law_512 : decode code 512 = .ok (.ireturn, 1) := by decide +kernel
theorem d_L_law_513 : decode code 513 = .ok (.goto 276, 3) := by decide +kernel
theorem d_L_law_516 : decode code 516 = .ok (.aload_n 1, 1) := by decide +kernel
theorem d_L_law_517 : decode code 517 = .ok (.aload_n 0, 1) := by decide +kernel
theorem d_L_law_518 : decode code 518 = .ok (.iload 4, 2) := by decide +kernel
theorem d_L_law_520 : decode code 520 = .ok (.iconst 1, 1) := by decide +kernel
theorem d_L_law_521 : decode code 521 = .ok (.iadd, 1) := by decide +kernel
theorem d_L_law_522 : decode code 522 = .ok (.iaload, 1) := by decide +kernel
theorem d_L_law_523 : decode code 523 = .ok (.aload_n 0, 1) := by decide +kernel
theorem d_L_law_524 : decode code 524 = .ok (.iload 4, 2) := by decide +kernel
theorem d_L_law_526 : decode code 526 = .ok (.iconst 2, 1) := by decide +kernel
theorem d_L_law_527 : decode code 527 = .ok (.iadd, 1) := by decide +kernel
theorem d_L_law_528 : decode code 528 = .ok (.iaload, 1) := by decide +kernel
theorem d_L_law_529 : decode code 529 = .ok (.aload_n 3, 1) := by decide +kernel
theorem d_L_law_530 : decode code 530 = .ok (.invokestatic 90, 3) := by decide +kernel
theorem d_L_law_533 : decode code 533 = .ok (.istore 5, 2) := by decide +kernel
theorem d_L_law_535 : decode code 535 = .ok (.aload_n 2, 1) := by decide +kernel
theorem d_L_law_536 : decode code 536 = .ok (.aload_n 0, 1) := by decide +kernel
theorem d_L_law_537 : decode code 537 = .ok (.iload 4, 2) := by decide +kernel
theorem d_L_law_539 : decode code 539 = .ok (.iconst 1, 1) := by decide +kernel
theorem d_L_law_540 : decode code 540 = .ok (.iadd, 1) := by decide +kernel
theorem d_L_law_541 : decode code 541 = .ok (.iaload, 1) := by decide +kernel
theorem d_L_law_542 : decode code 542 = .ok (.aload_n 0, 1) := by decide +kernel
theorem d_L_law_543 : decode code 543 = .ok (.iload 4, 2) := by decide +kernel
theorem d_L_law_545 : decode code 545 = .ok (.iconst 2, 1) := by decide +kernel
theorem d_L_law_546 : decode code 546 = .ok (.iadd, 1) := by decide +kernel
theorem d_L_law_547 : decode code 547 = .ok (.iaload, 1) := by decide +kernel
theorem d_L_law_548 : decode code 548 = .ok (.invokevirtual 92, 3) := by decide +kernel
theorem d_L_law_551 : decode code 551 = .ok (.istore 6, 2) := by decide +kernel
theorem d_L_law_553 : decode code 553 = .ok (.aload_n 2, 1) := by decide +kernel
theorem d_L_law_554 : decode code 554 = .ok (.invokevirtual 60, 3) := by decide +kernel
theorem d_L_law_557 : decode code 557 = .ok (.iload 5, 2) := by decide +kernel
theorem d_L_law_559 : decode code 559 = .ok (.if_icmp .eq 5, 3) := by decide +kernel
theorem d_L_law_562 : decode code 562 = .ok (.iconst 0, 1) := by decide +kernel
theorem d_L_law_563 : decode code 563 = .ok (.ireturn, 1) := by decide +kernel
theorem d_L_law_564 : decode code 564 = .ok (.iload 5, 2) := by decide +kernel
theorem d_L_law_566 : decode code 566 = .ok (.ifCond .ne 15, 3) := by decide +kernel
theorem d_L_law_569 : decode code 569 = .ok (.aload_n 3, 1) := by decide +kernel
theorem d_L_law_570 : decode code 570 = .ok (.iconst 0, 1) := by decide +kernel
theorem d_L_law_571 : decode code 571 = .ok (.laload, 1) := by decide +kernel
theorem d_L_law_572 : decode code 572 = .ok (.iload 6, 2) := by decide +kernel
theorem d_L_law_574 : decode code 574 = .ok (.i2l, 1) := by decide +kernel
theorem d_L_law_575 : decode code 575 = .ok (.lcmp, 1) := by decide +kernel
theorem d_L_law_576 : decode code 576 = .ok (.ifCond .eq 5, 3) := by decide +kernel
theorem d_L_law_579 : decode code 579 = .ok (.iconst 0, 1) := by decide +kernel
theorem d_L_law_580 : decode code 580 = .ok (.ireturn, 1) := by decide +kernel
theorem d_L_law_581 : decode code 581 = .ok (.goto 208, 3) := by decide +kernel
theorem d_L_law_584 : decode code 584 = .ok (.aload_n 1, 1) := by decide +kernel
theorem d_L_law_585 : decode code 585 = .ok (.aload_n 0, 1) := by decide +kernel
theorem d_L_law_586 : decode code 586 = .ok (.iload 4, 2) := by decide +kernel
theorem d_L_law_588 : decode code 588 = .ok (.iconst 1, 1) := by decide +kernel
theorem d_L_law_589 : decode code 589 = .ok (.iadd, 1) := by decide +kernel
theorem d_L_law_590 : decode code 590 = .ok (.iaload, 1) := by decide +kernel
theorem d_L_law_591 : decode code 591 = .ok (.aload_n 0, 1) := by decide +kernel
theorem d_L_law_592 : decode code 592 = .ok (.iload 4, 2) := by decide +kernel
theorem d_L_law_594 : decode code 594 = .ok (.iconst 2, 1) := by decide +kernel
theorem d_L_law_595 : decode code 595 = .ok (.iadd, 1) := by decide +kernel
theorem d_L_law_596 : decode code 596 = .ok (.iaload, 1) := by decide +kernel
theorem d_L_law_597 : decode code 597 = .ok (.aload_n 0, 1) := by decide +kernel
theorem d_L_law_598 : decode code 598 = .ok (.iload 4, 2) := by decide +kernel
theorem d_L_law_600 : decode code 600 = .ok (.iconst 3, 1) := by decide +kernel
theorem d_L_law_601 : decode code 601 = .ok (.iadd, 1) := by decide +kernel
theorem d_L_law_602 : decode code 602 = .ok (.iaload, 1) := by decide +kernel
theorem d_L_law_603 : decode code 603 = .ok (.aload_n 0, 1) := by decide +kernel
theorem d_L_law_604 : decode code 604 = .ok (.iload 4, 2) := by decide +kernel
theorem d_L_law_606 : decode code 606 = .ok (.iconst 4, 1) := by decide +kernel
theorem d_L_law_607 : decode code 607 = .ok (.iadd, 1) := by decide +kernel
theorem d_L_law_608 : decode code 608 = .ok (.iaload, 1) := by decide +kernel
theorem d_L_law_609 : decode code 609 = .ok (.aload_n 3, 1) := by decide +kernel
theorem d_L_law_610 : decode code 610 = .ok (.invokestatic 93, 3) := by decide +kernel
theorem d_L_law_613 : decode code 613 = .ok (.istore 5, 2) := by decide +kernel
theorem d_L_law_615 : decode code 615 = .ok (.aload_n 2, 1) := by decide +kernel
theorem d_L_law_616 : decode code 616 = .ok (.aload_n 0, 1) := by decide +kernel
theorem d_L_law_617 : decode code 617 = .ok (.iload 4, 2) := by decide +kernel
theorem d_L_law_619 : decode code 619 = .ok (.iconst 1, 1) := by decide +kernel
theorem d_L_law_620 : decode code 620 = .ok (.iadd, 1) := by decide +kernel
theorem d_L_law_621 : decode code 621 = .ok (.iaload, 1) := by decide +kernel
theorem d_L_law_622 : decode code 622 = .ok (.aload_n 0, 1) := by decide +kernel
theorem d_L_law_623 : decode code 623 = .ok (.iload 4, 2) := by decide +kernel
theorem d_L_law_625 : decode code 625 = .ok (.iconst 2, 1) := by decide +kernel
theorem d_L_law_626 : decode code 626 = .ok (.iadd, 1) := by decide +kernel
theorem d_L_law_627 : decode code 627 = .ok (.iaload, 1) := by decide +kernel
theorem d_L_law_628 : decode code 628 = .ok (.aload_n 0, 1) := by decide +kernel
theorem d_L_law_629 : decode code 629 = .ok (.iload 4, 2) := by decide +kernel
theorem d_L_law_631 : decode code 631 = .ok (.iconst 3, 1) := by decide +kernel
theorem d_L_law_632 : decode code 632 = .ok (.iadd, 1) := by decide +kernel
theorem d_L_law_633 : decode code 633 = .ok (.iaload, 1) := by decide +kernel
theorem d_L_law_634 : decode code 634 = .ok (.aload_n 0, 1) := by decide +kernel
theorem d_L_law_635 : decode code 635 = .ok (.iload 4, 2) := by decide +kernel
theorem d_L_law_637 : decode code 637 = .ok (.iconst 4, 1) := by decide +kernel
theorem d_L_law_638 : decode code 638 = .ok (.iadd, 1) := by decide +kernel
theorem d_L_law_639 : decode code 639 = .ok (.iaload, 1) := by decide +kernel
theorem d_L_law_640 : decode code 640 = .ok (.invokevirtual 96, 3) := by decide +kernel
theorem d_L_law_643 : decode code 643 = .ok (.istore 6, 2) := by decide +kernel
theorem d_L_law_645 : decode code 645 = .ok (.aload_n 2, 1) := by decide +kernel
theorem d_L_law_646 : decode code 646 = .ok (.invokevirtual 60, 3) := by decide +kernel
theorem d_L_law_649 : decode code 649 = .ok (.iload 5, 2) := by decide +kernel
theorem d_L_law_651 : decode code 651 = .ok (.if_icmp .eq 5, 3) := by decide +kernel
theorem d_L_law_654 : decode code 654 = .ok (.iconst 0, 1) := by decide +kernel
theorem d_L_law_655 : decode code 655 = .ok (.ireturn, 1) := by decide +kernel
theorem d_L_law_656 : decode code 656 = .ok (.iload 5, 2) := by decide +kernel
theorem d_L_law_658 : decode code 658 = .ok (.ifCond .ne 15, 3) := by decide +kernel
theorem d_L_law_661 : decode code 661 = .ok (.aload_n 3, 1) := by decide +kernel
theorem d_L_law_662 : decode code 662 = .ok (.iconst 0, 1) := by decide +kernel
theorem d_L_law_663 : decode code 663 = .ok (.laload, 1) := by decide +kernel
theorem d_L_law_664 : decode code 664 = .ok (.iload 6, 2) := by decide +kernel
theorem d_L_law_666 : decode code 666 = .ok (.i2l, 1) := by decide +kernel
theorem d_L_law_667 : decode code 667 = .ok (.lcmp, 1) := by decide +kernel
theorem d_L_law_668 : decode code 668 = .ok (.ifCond .eq 5, 3) := by decide +kernel
theorem d_L_law_671 : decode code 671 = .ok (.iconst 0, 1) := by decide +kernel
theorem d_L_law_672 : decode code 672 = .ok (.ireturn, 1) := by decide +kernel
theorem d_L_law_673 : decode code 673 = .ok (.goto 116, 3) := by decide +kernel
theorem d_L_law_676 : decode code 676 = .ok (.aload_n 1, 1) := by decide +kernel
theorem d_L_law_677 : decode code 677 = .ok (.aload_n 0, 1) := by decide +kernel
theorem d_L_law_678 : decode code 678 = .ok (.iload 4, 2) := by decide +kernel
theorem d_L_law_680 : decode code 680 = .ok (.iconst 1, 1) := by decide +kernel
theorem d_L_law_681 : decode code 681 = .ok (.iadd, 1) := by decide +kernel
theorem d_L_law_682 : decode code 682 = .ok (.iaload, 1) := by decide +kernel
theorem d_L_law_683 : decode code 683 = .ok (.invokevirtual 97, 3) := by decide +kernel
theorem d_L_law_686 : decode code 686 = .ok (.aload_n 2, 1) := by decide +kernel
theorem d_L_law_687 : decode code 687 = .ok (.aload_n 0, 1) := by decide +kernel
theorem d_L_law_688 : decode code 688 = .ok (.iload 4, 2) := by decide +kernel
theorem d_L_law_690 : decode code 690 = .ok (.iconst 1, 1) := by decide +kernel
theorem d_L_law_691 : decode code 691 = .ok (.iadd, 1) := by decide +kernel
theorem d_L_law_692 : decode code 692 = .ok (.iaload, 1) := by decide +kernel
theorem d_L_law_693 : decode code 693 = .ok (.invokevirtual 100, 3) := by decide +kernel
theorem d_L_law_696 : decode code 696 = .ok (.if_icmp .eq 93, 3) := by decide +kernel
theorem d_L_law_699 : decode code 699 = .ok (.iconst 0, 1) := by decide +kernel
theorem d_L_law_700 : decode code 700 = .ok (.ireturn, 1) := by decide +kernel
theorem d_L_law_701 : decode code 701 = .ok (.aload_n 1, 1) := by decide +kernel
theorem d_L_law_702 : decode code 702 = .ok (.aload_n 0, 1) := by decide +kernel
theorem d_L_law_703 : decode code 703 = .ok (.iload 4, 2) := by decide +kernel
theorem d_L_law_705 : decode code 705 = .ok (.iconst 1, 1) := by decide +kernel
theorem d_L_law_706 : decode code 706 = .ok (.iadd, 1) := by decide +kernel
theorem d_L_law_707 : decode code 707 = .ok (.iaload, 1) := by decide +kernel
theorem d_L_law_708 : decode code 708 = .ok (.aload_n 0, 1) := by decide +kernel
theorem d_L_law_709 : decode code 709 = .ok (.iload 4, 2) := by decide +kernel
theorem d_L_law_711 : decode code 711 = .ok (.iconst 2, 1) := by decide +kernel
theorem d_L_law_712 : decode code 712 = .ok (.iadd, 1) := by decide +kernel
theorem d_L_law_713 : decode code 713 = .ok (.iaload, 1) := by decide +kernel
theorem d_L_law_714 : decode code 714 = .ok (.aload_n 3, 1) := by decide +kernel
theorem d_L_law_715 : decode code 715 = .ok (.invokestatic 101, 3) := by decide +kernel
theorem d_L_law_718 : decode code 718 = .ok (.istore 5, 2) := by decide +kernel
theorem d_L_law_720 : decode code 720 = .ok (.aload_n 2, 1) := by decide +kernel
theorem d_L_law_721 : decode code 721 = .ok (.aload_n 0, 1) := by decide +kernel
theorem d_L_law_722 : decode code 722 = .ok (.iload 4, 2) := by decide +kernel
theorem d_L_law_724 : decode code 724 = .ok (.iconst 1, 1) := by decide +kernel
theorem d_L_law_725 : decode code 725 = .ok (.iadd, 1) := by decide +kernel
theorem d_L_law_726 : decode code 726 = .ok (.iaload, 1) := by decide +kernel
theorem d_L_law_727 : decode code 727 = .ok (.aload_n 0, 1) := by decide +kernel
theorem d_L_law_728 : decode code 728 = .ok (.iload 4, 2) := by decide +kernel
theorem d_L_law_730 : decode code 730 = .ok (.iconst 2, 1) := by decide +kernel
theorem d_L_law_731 : decode code 731 = .ok (.iadd, 1) := by decide +kernel
theorem d_L_law_732 : decode code 732 = .ok (.iaload, 1) := by decide +kernel
theorem d_L_law_733 : decode code 733 = .ok (.invokevirtual 103, 3) := by decide +kernel
theorem d_L_law_736 : decode code 736 = .ok (.istore 6, 2) := by decide +kernel
theorem d_L_law_738 : decode code 738 = .ok (.aload_n 2, 1) := by decide +kernel
theorem d_L_law_739 : decode code 739 = .ok (.invokevirtual 60, 3) := by decide +kernel
theorem d_L_law_742 : decode code 742 = .ok (.iload 5, 2) := by decide +kernel
theorem d_L_law_744 : decode code 744 = .ok (.if_icmp .eq 5, 3) := by decide +kernel
theorem d_L_law_747 : decode code 747 = .ok (.iconst 0, 1) := by decide +kernel
theorem d_L_law_748 : decode code 748 = .ok (.ireturn, 1) := by decide +kernel
theorem d_L_law_749 : decode code 749 = .ok (.iload 5, 2) := by decide +kernel
theorem d_L_law_751 : decode code 751 = .ok (.ifCond .ne 22, 3) := by decide +kernel
theorem d_L_law_754 : decode code 754 = .ok (.aload_n 3, 1) := by decide +kernel
theorem d_L_law_755 : decode code 755 = .ok (.iconst 0, 1) := by decide +kernel
theorem d_L_law_756 : decode code 756 = .ok (.laload, 1) := by decide +kernel
theorem d_L_law_757 : decode code 757 = .ok (.iload 6, 2) := by decide +kernel
theorem d_L_law_759 : decode code 759 = .ok (.ifCond .eq 7, 3) := by decide +kernel
theorem d_L_law_762 : decode code 762 = .ok (.lconst 1, 1) := by decide +kernel
theorem d_L_law_763 : decode code 763 = .ok (.goto 4, 3) := by decide +kernel
theorem d_L_law_766 : decode code 766 = .ok (.lconst 0, 1) := by decide +kernel
theorem d_L_law_767 : decode code 767 = .ok (.lcmp, 1) := by decide +kernel
theorem d_L_law_768 : decode code 768 = .ok (.ifCond .eq 5, 3) := by decide +kernel
theorem d_L_law_771 : decode code 771 = .ok (.iconst 0, 1) := by decide +kernel
theorem d_L_law_772 : decode code 772 = .ok (.ireturn, 1) := by decide +kernel
theorem d_L_law_773 : decode code 773 = .ok (.goto 16, 3) := by decide +kernel
theorem d_L_law_776 : decode code 776 = .ok (.aload_n 1, 1) := by decide +kernel
theorem d_L_law_777 : decode code 777 = .ok (.invokevirtual 104, 3) := by decide +kernel
theorem d_L_law_780 : decode code 780 = .ok (.aload_n 2, 1) := by decide +kernel
theorem d_L_law_781 : decode code 781 = .ok (.invokevirtual 107, 3) := by decide +kernel
theorem d_L_law_784 : decode code 784 = .ok (.if_icmp .eq 5, 3) := by decide +kernel
theorem d_L_law_787 : decode code 787 = .ok (.iconst 0, 1) := by decide +kernel
theorem d_L_law_788 : decode code 788 = .ok (.ireturn, 1) := by decide +kernel
theorem d_L_law_789 : decode code 789 = .ok (.iinc 4 5, 3) := by decide +kernel
theorem d_L_law_792 : decode code 792 = .ok (.goto (-769), 3) := by decide +kernel
theorem d_L_law_795 : decode code 795 = .ok (.iconst 1, 1) := by decide +kernel
theorem d_L_law_796 : decode code 796 = .ok (.ireturn, 1) := by decide +kernel
end
section
/-! ints and longs by their whole numbers -/
def jI (z : Int) : Int32 := Int32.ofInt z
def jL (z : Int) : Int64 := Int64.ofInt z
theorem jL_add (a b : Int) : jL a + jL b = jL (a + b) := (Int64.ofInt_add a b).symm
theorem jL_sub (a b : Int) : jL a - jL b = jL (a - b) := (Int64.ofInt_sub a b).symm
theorem jL_mul (a b : Int) : jL a * jL b = jL (a * b) := (Int64.ofInt_mul a b).symm
theorem jL_neg (a : Int) : - jL a = jL (- a) := (Int64.ofInt_neg a).symm
theorem jI_add (a b : Int) : jI a + jI b = jI (a + b) := (Int32.ofInt_add a b).symm
theorem jI_sub (a b : Int) : jI a - jI b = jI (a - b) := (Int32.ofInt_sub a b).symm
theorem jI_mul (a b : Int) : jI a * jI b = jI (a * b) := (Int32.ofInt_mul a b).symm
theorem jI_neg (a : Int) : - jI a = jI (- a) := (Int32.ofInt_neg a).symm
theorem jL_of (x : Int64) : x = jL x.toInt := (Int64.ofInt_toInt x).symm
theorem jI_of (x : Int32) : x = jI x.toInt := (Int32.ofInt_toInt x).symm
theorem jI_nI (n : Nat) : jI (n : Int) = nI n := Int32.ofInt_eq_ofNat
theorem jI_0 : (0 : Int32) = jI 0 := rfl
theorem jL_0 : (0 : Int64) = jL 0 := rfl
theorem jI_1 : (1 : Int32) = jI 1 := rfl
theorem jL_1 : (1 : Int64) = jL 1 := rfl
theorem jL_2 : (2 : Int64) = jL 2 := rfl
/-- a whole number that a long, an int holds -/
abbrev inL (z : Int) : Prop := -9223372036854775808 ≤ z ∧ z ≤ 9223372036854775807
abbrev inI (z : Int) : Prop := -2147483648 ≤ z ∧ z ≤ 2147483647
theorem jL_t {z : Int} (h : inL z) : (jL z).toInt = z := Int64.toInt_ofInt_of_le (by omega) (by omega)
theorem jI_t {z : Int} (h : inI z) : (jI z).toInt = z := Int32.toInt_ofInt_of_le (by omega) (by omega)
theorem jL_lt {a b : Int} (ha : inL a) (hb : inL b) : jL a < jL b ↔ a < b := by
  rw [Int64.lt_iff_toInt_lt, jL_t ha, jL_t hb]
theorem jL_le {a b : Int} (ha : inL a) (hb : inL b) : jL a ≤ jL b ↔ a ≤ b := by
  rw [Int64.le_iff_toInt_le, jL_t ha, jL_t hb]
theorem jL_eq {a b : Int} (ha : inL a) (hb : inL b) : jL a = jL b ↔ a = b := by
  rw [← Int64.toInt_inj, jL_t ha, jL_t hb]
theorem jI_lt {a b : Int} (ha : inI a) (hb : inI b) : jI a < jI b ↔ a < b := by
  rw [Int32.lt_iff_toInt_lt, jI_t ha, jI_t hb]
theorem jI_le {a b : Int} (ha : inI a) (hb : inI b) : jI a ≤ jI b ↔ a ≤ b := by
  rw [Int32.le_iff_toInt_le, jI_t ha, jI_t hb]
theorem jI_eq {a b : Int} (ha : inI a) (hb : inI b) : jI a = jI b ↔ a = b := by
  rw [← Int32.toInt_inj, jI_t ha, jI_t hb]
theorem jI_l {z : Int} (h : inI z) : (jI z).toInt64 = jL z := by
  rw [jL_of (jI z).toInt64, Int32.toInt_toInt64, jI_t h]
theorem jL_div {a b : Int} (ha : inL a) (hb : inL b) : jL a / jL b = jL (a.tdiv b) :=
  (Int64.ofInt_tdiv (show -9223372036854775808 ≤ a from ha.1) (show a ≤ 9223372036854775807 from ha.2) (show -9223372036854775808 ≤ b from hb.1) (show b ≤ 9223372036854775807 from hb.2)).symm
theorem jI_div {a b : Int} (ha : inI a) (hb : inI b) : jI a / jI b = jI (a.tdiv b) :=
  (Int32.ofInt_tdiv (show -2147483648 ≤ a from ha.1) (show a ≤ 2147483647 from ha.2) (show -2147483648 ≤ b from hb.1) (show b ≤ 2147483647 from hb.2)).symm
/-- the rows' word for the rest -/
theorem jL_rem {a b : Int} (ha : inL a) (hb : inL b) : jL a - jL a / jL b * jL b = jL (a.tmod b) := by
  rw [jL_div ha hb, jL_mul, jL_sub]
  congr 1
  have := Int.mul_tdiv_add_tmod a b
  rw [Int.mul_comm] at this
  omega
theorem jI_rem {a b : Int} (ha : inI a) (hb : inI b) : jI a - jI a / jI b * jI b = jI (a.tmod b) := by
  rw [jI_div ha hb, jI_mul, jI_sub]
  congr 1
  have := Int.mul_tdiv_add_tmod a b
  rw [Int.mul_comm] at this
  omega
theorem jL_divN {a b : Nat} (ha : a < 2 ^ 62) (hb : b < 2 ^ 62) : jL a / jL b = jL (a / b : Nat) := by
  rw [jL_div (by omega) (by omega)]; rfl
theorem jL_remN {a b : Nat} (ha : a < 2 ^ 62) (hb : b < 2 ^ 62) : jL a - jL a / jL b * jL b = jL (a % b : Nat) := by
  rw [jL_rem (by omega) (by omega)]; rfl
/-- an index: a whole number in range -/
theorem jI_in {z : Int} {n : Nat} (h0 : 0 ≤ z) (h1 : z < n) (hn : n < 2147483648) : vp_in (jI z) n := vp_in_iff.mpr (by rw [jI_t (by omega)]; exact ⟨h0, h1⟩)
theorem jI_cl {z : Int} (h0 : 0 ≤ z) (h1 : z < 2147483648) : (jI z).toNatClampNeg = z.toNat := by
  show (jI z).toInt.toNat = z.toNat
  rw [jI_t (by omega)]
/-- Euclid's way, with a bound on its steps -/
theorem gcd_half {a b : Nat} (hb : 0 < b) (hr : 0 < a % b) : 2 * (b % (a % b)) < b := by
  have h1 : a % b < b := Nat.mod_lt a hb
  have h2 : b % (a % b) < a % b := Nat.mod_lt b hr
  have h3 := Nat.div_add_mod b (a % b)
  have h4 : 1 ≤ b / (a % b) := Nat.div_pos (Nat.le_of_lt h1) hr
  have h5 : (a % b) * 1 ≤ (a % b) * (b / (a % b)) := Nat.mul_le_mul_left _ h4
  omega
end
section
/-! fractions: pairs (above, below) of whole numbers; lowest terms; rising lists of them -/
abbrev Fr : Type := Int × Int
def fr0 : Fr := (0, 1)
/-- x is below y (both with a number above 0 below the bar) -/
abbrev flt (x y : Fr) : Prop := x.1 * y.2 < y.1 * x.2
/-- lowest terms, the number below the bar above 0 -/
def fred (u d : Int) : Fr := if d < 0 then (-(u / (Int.gcd u d : Int)), -(d / (Int.gcd u d : Int))) else (u / (Int.gcd u d : Int), d / (Int.gcd u d : Int))
theorem fred_spec (u d : Int) (hd : d ≠ 0) : ∃ g : Int, g ≠ 0 ∧ u = g * (fred u d).1 ∧ d = g * (fred u d).2 ∧ 0 < (fred u d).2 ∧ (0 < d → 0 < g) := by
  have g0 : 0 < (Int.gcd u d : Int) := by exact_mod_cast Int.gcd_pos_of_ne_zero_right u hd
  have hu : (Int.gcd u d : Int) * (u / (Int.gcd u d : Int)) = u := Int.mul_ediv_cancel' (Int.gcd_dvd_left u d)
  have hv : (Int.gcd u d : Int) * (d / (Int.gcd u d : Int)) = d := Int.mul_ediv_cancel' (Int.gcd_dvd_right u d)
  unfold fred
  generalize (Int.gcd u d : Int) = g at *
  generalize u / g = U at *
  generalize d / g = D at *
  by_cases h : d < 0
  · rw [if_pos h]
    refine ⟨-g, by omega, ?_, ?_, ?_, fun h2 => absurd h2 (by omega)⟩
    · show u = -g * -U
      rw [Int.neg_mul_neg]; exact hu.symm
    · show d = -g * -D
      rw [Int.neg_mul_neg]; exact hv.symm
    · show 0 < -D
      have : D < 0 := by
        apply Int.not_le.mp
        intro hD
        have := Int.mul_nonneg (Int.le_of_lt g0) hD
        omega
      omega
  · rw [if_neg h]
    refine ⟨g, by omega, hu.symm, hv.symm, ?_, fun _ => g0⟩
    show 0 < D
    apply Int.not_le.mp
    intro hD
    have := Int.mul_nonneg (Int.le_of_lt g0) (show 0 ≤ -D by omega)
    rw [Int.mul_neg] at this
    omega
theorem fred_pos (u d : Int) (hd : d ≠ 0) : 0 < (fred u d).2 := (fred_spec u d hd).choose_spec.2.2.2.1
theorem fred_scale (k u d : Int) (hk : k ≠ 0) (hd : d ≠ 0) : fred (k * u) (k * d) = fred u d := by
  have hg : (Int.gcd (k * u) (k * d) : Int) = (k.natAbs : Int) * (Int.gcd u d : Int) := by
    rw [Int.gcd_mul_left]; exact Int.natCast_mul _ _
  have du := Int.gcd_dvd_left u d
  have dd := Int.gcd_dvd_right u d
  unfold fred
  rw [hg]
  generalize (Int.gcd u d : Int) = g at *
  rcases Int.lt_or_gt_of_ne hk with h | h
  · obtain ⟨j, rfl⟩ : ∃ j : Int, k = -j := ⟨-k, by omega⟩
    have hj : 0 < j := by omega
    have hn : ((-j).natAbs : Int) = j := by omega
    rw [hn, show -j * u = j * -u by rw [Int.neg_mul, Int.mul_neg], show -j * d = j * -d by rw [Int.neg_mul, Int.mul_neg], Int.mul_ediv_mul_of_pos _ _ hj, Int.mul_ediv_mul_of_pos _ _ hj, Int.neg_ediv_of_dvd du, Int.neg_ediv_of_dvd dd]
    rcases Int.lt_or_gt_of_ne hd with h2 | h2
    · rw [if_pos h2, if_neg (by have := Int.mul_pos hj (show 0 < -d by omega); omega)]
    · rw [if_neg (show ¬ d < 0 by omega), if_pos (show j * -d < 0 by have := Int.mul_pos hj h2; rw [Int.mul_neg]; omega)]
      simp
  · have hn : (k.natAbs : Int) = k := by omega
    rw [hn, Int.mul_ediv_mul_of_pos _ _ h, Int.mul_ediv_mul_of_pos _ _ h]
    rcases Int.lt_or_gt_of_ne hd with h2 | h2
    · rw [if_pos h2, if_pos (by have := Int.mul_pos h (show 0 < -d by omega); rw [Int.mul_neg] at this; omega)]
    · rw [if_neg (show ¬ d < 0 by omega), if_neg (show ¬ k * d < 0 by have := Int.mul_pos h h2; omega)]
theorem fred_eq {u d u' d' : Int} (hd : d ≠ 0) (hd' : d' ≠ 0) (h : u * d' = u' * d) : fred u d = fred u' d' := by
  rw [← fred_scale d' u d hd' hd, ← fred_scale d u' d' hd hd', Int.mul_comm d' u, h, Int.mul_comm u' d, Int.mul_comm d' d]
theorem flt_red {u d u' d' : Int} (hd : 0 < d) (hd' : 0 < d') : flt (fred u d) (fred u' d') ↔ u * d' < u' * d := by
  obtain ⟨g, -, h1, h2, -, h4⟩ := fred_spec u d (by omega)
  obtain ⟨g', -, h1', h2', -, h4'⟩ := fred_spec u' d' (by omega)
  have hg := h4 hd
  have hg' := h4' hd'
  unfold flt
  generalize (fred u d).1 = U at *
  generalize (fred u d).2 = D at *
  generalize (fred u' d').1 = U' at *
  generalize (fred u' d').2 = D' at *
  subst h1 h2 h1' h2'
  have e1 : g * U * (g' * D') = (g * g') * (U * D') := by grind
  have e2 : g' * U' * (g * D) = (g * g') * (U' * D) := by grind
  rw [e1, e2]
  have hp : 0 < g * g' := Int.mul_pos hg hg'
  exact ⟨fun h => Int.mul_lt_mul_of_pos_left h hp, fun h => Int.lt_of_mul_lt_mul_left h (Int.le_of_lt hp)⟩
theorem fred_cross {u d u' d' : Int} (hd : 0 < d) (hd' : 0 < d') : fred u d = fred u' d' ↔ u * d' = u' * d := by
  constructor
  · intro h
    obtain ⟨g, -, h1, h2, -, -⟩ := fred_spec u d (by omega)
    obtain ⟨g', -, h1', h2', -, -⟩ := fred_spec u' d' (by omega)
    rw [← h] at h1' h2'
    generalize (fred u d).1 = U at *
    generalize (fred u d).2 = D at *
    subst h1 h2 h1' h2'
    grind
  · exact fred_eq (by omega) (by omega)
theorem fred_red (u d : Int) (hd : d ≠ 0) : fred (fred u d).1 (fred u d).2 = fred u d := by
  obtain ⟨g, -, h1, h2, h3, -⟩ := fred_spec u d hd
  refine fred_eq (by omega) hd ?_
  generalize (fred u d).1 = U at *
  generalize (fred u d).2 = D at *
  subst h1 h2
  grind
/-- what is in lowest terms -/
def fok (x : Fr) : Prop := 0 < x.2 ∧ fred x.1 x.2 = x
theorem fok_red (u d : Int) (hd : d ≠ 0) : fok (fred u d) := ⟨fred_pos u d hd, fred_red u d hd⟩
theorem fok_lt {x y : Fr} (hx : fok x) (hy : fok y) : ¬ flt x y → ¬ flt y x → x = y := by
  intro h1 h2
  rw [← hx.2, ← hy.2]
  refine fred_eq (by have := hx.1; omega) (by have := hy.1; omega) ?_
  unfold flt at h1 h2
  omega
theorem flt_irr (x : Fr) : ¬ flt x x := by unfold flt; omega
theorem flt_tr {x y z : Fr} (hx : 0 < x.2) (hy : 0 < y.2) (hz : 0 < z.2) (h1 : flt x y) (h2 : flt y z) : flt x z := by
  unfold flt at *
  have a := Int.mul_lt_mul_of_pos_right h1 hz
  have b := Int.mul_lt_mul_of_pos_right h2 hx
  refine Int.lt_of_mul_lt_mul_right (a := y.2) ?_ (Int.le_of_lt hy)
  have e1 : x.1 * z.2 * y.2 = x.1 * y.2 * z.2 := by grind
  have e2 : z.1 * x.2 * y.2 = z.1 * y.2 * x.2 := by grind
  have e3 : y.1 * x.2 * z.2 = y.1 * z.2 * x.2 := by grind
  omega
/-! rising lists -/
/-- how many lead with fractions below x -/
def fpos (x : Fr) : List Fr → Nat
  | [] => 0
  | y :: t => if flt y x then fpos x t + 1 else 0
/-- x put at its place, once -/
def fins (x : Fr) : List Fr → List Fr
  | [] => [x]
  | y :: t => if flt y x then y :: fins x t else if y = x then y :: t else x :: y :: t
abbrev fg (L : List Fr) (j : Nat) : Fr := L.getD j fr0
theorem fpos_le (x : Fr) (L : List Fr) : fpos x L ≤ L.length := by
  induction L with
  | nil => exact Nat.le_refl 0
  | cons y t ih =>
    unfold fpos
    split
    · exact Nat.succ_le_succ ih
    · exact Nat.zero_le _
theorem fpos_lt (x : Fr) (L : List Fr) : ∀ j, j < fpos x L → flt (fg L j) x := by
  induction L with
  | nil => intro j h; exact absurd h (Nat.not_lt_zero j)
  | cons y t ih =>
    intro j h
    unfold fpos at h
    split at h
    case isTrue hy =>
      cases j with
      | zero => exact hy
      | succ j => exact ih j (Nat.lt_of_succ_lt_succ h)
    case isFalse => exact absurd h (Nat.not_lt_zero j)
theorem fpos_ge (x : Fr) (L : List Fr) : fpos x L < L.length → ¬ flt (fg L (fpos x L)) x := by
  induction L with
  | nil => intro h; exact absurd h (Nat.not_lt_zero _)
  | cons y t ih =>
    intro h
    unfold fpos at h ⊢
    split at h
    case isTrue hy =>
      rw [if_pos hy]
      exact ih (Nat.lt_of_succ_lt_succ h)
    case isFalse hy =>
      rw [if_neg hy]
      exact hy
theorem fpos_eq {x : Fr} {L : List Fr} {p : Nat} (h1 : p ≤ L.length) (h2 : ∀ j, j < p → flt (fg L j) x) (h3 : p < L.length → ¬ flt (fg L p) x) : fpos x L = p := by
  have a := fpos_lt x L
  have b := fpos_ge x L
  have c := fpos_le x L
  rcases Nat.lt_trichotomy (fpos x L) p with h | h | h
  · exact absurd (h2 _ h) (b (by omega))
  · exact h
  · exact absurd (a _ h) (h3 (by omega))
theorem fins_in {x : Fr} {L : List Fr} (h : fpos x L < L.length) (he : fg L (fpos x L) = x) : fins x L = L := by
  induction L with
  | nil => exact absurd h (Nat.not_lt_zero _)
  | cons y t ih =>
    unfold fpos at h he
    unfold fins
    split at h
    case isTrue hy =>
      rw [if_pos hy] at he ⊢
      rw [ih (Nat.lt_of_succ_lt_succ h) he]
    case isFalse hy =>
      rw [if_neg hy] at he ⊢
      have : y = x := he
      rw [if_pos this]
theorem fins_new {x : Fr} {L : List Fr} (h : ¬ (fpos x L < L.length ∧ fg L (fpos x L) = x)) : (fins x L).length = L.length + 1 ∧ ∀ j, fg (fins x L) j = if j < fpos x L then fg L j else if j = fpos x L then x else fg L (j - 1) := by
  induction L with
  | nil =>
    refine ⟨rfl, fun j => ?_⟩
    cases j with
    | zero => rfl
    | succ j => rfl
  | cons y t ih =>
    unfold fpos at h
    by_cases hy : flt y x
    · rw [if_pos hy] at h
      have h2 : ¬ (fpos x t < t.length ∧ fg t (fpos x t) = x) := fun q => h ⟨Nat.succ_lt_succ q.1, q.2⟩
      obtain ⟨i1, i2⟩ := ih h2
      have e : fins x (y :: t) = y :: fins x t := by show (if flt y x then _ else _) = _; rw [if_pos hy]
      have e2 : fpos x (y :: t) = fpos x t + 1 := by show (if flt y x then _ else _) = _; rw [if_pos hy]
      rw [e, e2]
      refine ⟨by simp [i1], fun j => ?_⟩
      cases j with
      | zero => rfl
      | succ j =>
        have := i2 j
        show fg (fins x t) j = _
        rw [this]
        by_cases c1 : j < fpos x t
        · rw [if_pos c1, if_pos (show j + 1 < fpos x t + 1 by omega)]; rfl
        · rw [if_neg c1, if_neg (show ¬ j + 1 < fpos x t + 1 by omega)]
          by_cases c2 : j = fpos x t
          · rw [if_pos c2, if_pos (show j + 1 = fpos x t + 1 by omega)]
          · rw [if_neg c2, if_neg (show ¬ j + 1 = fpos x t + 1 by omega)]
            obtain ⟨i, rfl⟩ : ∃ i, j = i + 1 := ⟨j - 1, by omega⟩
            rfl
    · rw [if_neg hy] at h
      have h2 : ¬ y = x := fun q => h ⟨Nat.succ_pos _, q⟩
      have e : fins x (y :: t) = x :: y :: t := by show (if flt y x then _ else _) = _; rw [if_neg hy, if_neg h2]
      have e2 : fpos x (y :: t) = 0 := by show (if flt y x then _ else _) = _; rw [if_neg hy]
      rw [e, e2]
      refine ⟨rfl, fun j => ?_⟩
      cases j with
      | zero => rfl
      | succ j => rfl
/-- all in lowest terms, rising -/
def fup (L : List Fr) : Prop := (∀ j, j < L.length → fok (fg L j)) ∧ ∀ i j, i < j → j < L.length → flt (fg L i) (fg L j)
theorem fup_nil : fup [] := ⟨fun j h => absurd h (Nat.not_lt_zero j), fun i j _ h => absurd h (Nat.not_lt_zero j)⟩
theorem fup_ins {x : Fr} {L : List Fr} (hx : fok x) (h : fup L) : fup (fins x L) := by
  by_cases c : fpos x L < L.length ∧ fg L (fpos x L) = x
  · rw [fins_in c.1 c.2]; exact h
  · obtain ⟨e1, e2⟩ := fins_new c
    have b1 := fpos_lt x L
    have b2 := fpos_ge x L
    have b3 := fpos_le x L
    have above : ∀ j, fpos x L ≤ j → j < L.length → flt x (fg L j) := by
      intro j h1 h2
      have h3 : flt x (fg L (fpos x L)) := by
        apply Classical.byContradiction
        intro q
        exact c ⟨by omega, fok_lt (h.1 _ (by omega)) hx (b2 (by omega)) q⟩
      rcases Nat.eq_or_lt_of_le h1 with q | q
      · rw [← q]; exact h3
      · exact flt_tr hx.1 (h.1 _ (by omega)).1 (h.1 _ h2).1 h3 (h.2 _ _ q h2)
    refine ⟨fun j hj => ?_, fun i j hij hj => ?_⟩
    · rw [e2]
      split
      · exact h.1 j (by omega)
      · split
        · exact hx
        · exact h.1 (j - 1) (by omega)
    · rw [e2 i, e2 j]
      by_cases a1 : i < fpos x L
      · rw [if_pos a1]
        by_cases a2 : j < fpos x L
        · rw [if_pos a2]; exact h.2 i j hij (by omega)
        · rw [if_neg a2]
          by_cases a3 : j = fpos x L
          · rw [if_pos a3]; exact b1 i a1
          · rw [if_neg a3]; exact h.2 i (j - 1) (by omega) (by omega)
      · rw [if_neg a1, if_neg (show ¬ j < fpos x L by omega), if_neg (show ¬ j = fpos x L by omega)]
        by_cases a3 : i = fpos x L
        · rw [if_pos a3]; exact above (j - 1) (by omega) (by omega)
        · rw [if_neg a3]; exact h.2 (i - 1) (j - 1) (by omega) (by omega)
theorem fins_len (x : Fr) (L : List Fr) : (fins x L).length ≤ L.length + 1 := by
  by_cases c : fpos x L < L.length ∧ fg L (fpos x L) = x
  · rw [fins_in c.1 c.2]; omega
  · rw [(fins_new c).1]; omega
/-- which piece of the axis: 2 k between marks, 2 k + 1 the mark k -/
def fpc (x : Fr) (L : List Fr) : Nat := if fpos x L < L.length ∧ fg L (fpos x L) = x then 2 * fpos x L + 1 else 2 * fpos x L
end
section
/-! the worlds: what the cells of a Marks, of the class, of the reference hold -/
abbrev KS : Type := Int32 × (Nat → Int64) × (Nat → Int64)
def KS.cnt (s : KS) : Int32 := s.1
def KS.up (s : KS) : Nat → Int64 := s.2.1
def KS.dn (s : KS) : Nat → Int64 := s.2.2
def KS.set_cnt (s : KS) (v : Int32) : KS := (v, s.2.1, s.2.2)
def KS.set_up (s : KS) (v : Nat → Int64) : KS := (s.1, v, s.2.2)
def KS.set_dn (s : KS) (v : Nat → Int64) : KS := (s.1, s.2.1, v)
/-- a Marks at h 0, its rows at h 1, h 2 -/
def WK (h : Nat → Nat) (k : Nat → ClassId) (s : KS) : va_W := [(h 0, .inr (0, [.ref (h 1), .ref (h 2), .int (KS.cnt s)])), (h 1, .inl (k 1, 15, .inr (.inl (KS.up s)))), (h 2, .inl (k 2, 15, .inr (.inl (KS.dn s))))]
abbrev YK (k : Nat → ClassId) : List (ClassId × FieldType) := [(k 1, .long), (k 2, .long)]
/-- the one word that no list of good words carries -/
abbrev nestW : Cond := .fieldLinkNest RC 77 RK "count" "I" RC
/-- what a method that writes nothing finds -/
def pRo (D : va_G) (ws : va_W) (tys : List (ClassId × FieldType)) (U : State) : Prop := va_P D vwCl ws U.heap ∧ va_K D vwCl tys U ∧ va_Nw nestW U
/-- what a method that writes finds -/
def pRw (D : va_G) (ws : va_W) (tys : List (ClassId × FieldType)) (sz : Nat) (U : State) : Prop := U.heap.size = sz ∧ va_P D vwCl ws U.heap ∧ va_K D vwCl tys U ∧ va_Nw nestW U ∧ va_D (fun _ => True) ws
theorem pRo_bl {D : va_G} {ws : va_W} {tys : List (ClassId × FieldType)} {av : List Value} : FrameBlind (va_Pc av (pRo D ws tys)) := fun a U g mk q => by
  obtain ⟨q0, q1, q2, q3⟩ := q
  exact ⟨q0, q1, va_K.moved (u := U) (U := U.calling g mk a) (Vm.Alike.refl U.vm) q2, va_Nw.same rfl rfl q3⟩
theorem pRw_bl {D : va_G} {ws : va_W} {tys : List (ClassId × FieldType)} {sz : Nat} {av : List Value} : FrameBlind (va_Pc av (pRw D ws tys sz)) := fun a U g mk q => by
  obtain ⟨q0, q4, q1, q2, q3, q5⟩ := q
  exact ⟨q0, q4, q1, va_K.moved (u := U) (U := U.calling g mk a) (Vm.Alike.refl U.vm) q2, va_Nw.same rfl rfl q3, q5⟩
theorem pRo_at {D : va_G} {ws : va_W} {tys : List (ClassId × FieldType)} {s U : State} {H : Heap} (hP : va_P D vwCl ws H) (hK : va_K D vwCl tys s) (hN : va_Nw nestW s) (hU : U.heap = H) (hW : s.WarmedH U.vm) : pRo D ws tys U := ⟨by rw [hU]; exact hP, va_K.moved hW.alike hK, va_Nw.warmF hW hN⟩
theorem pRw_at {D : va_G} {ws : va_W} {tys : List (ClassId × FieldType)} {A : Nat → Prop} {s U : State} {H : Heap} (hP : va_P D vwCl ws H) (hK : va_K D vwCl tys s) (hN : va_Nw nestW s) (hD : va_D A ws) (hU : U.heap = H) (hW : s.WarmedH U.vm) : pRw D ws tys H.size U := ⟨by rw [hU], by rw [hU]; exact hP, va_K.moved hW.alike hK, va_Nw.warmF hW hN, hD.weaken (fun _ _ _ _ => trivial)⟩
theorem pSt_bl {av : List Value} : FrameBlind (va_Pc av (fun _ => True)) := fun _ _ _ _ q => q
/-- what holds all through a body -/
def cxt (p : Program) (s : State) (m : MethodId) (args : Array Value) (meth : Method) (c : Code) (cc : ByteArray) (nL : Nat) (own : String) (ret : Option FieldType) : Prop := p.tables.exec = Jvm.exec ∧ c.code = cc ∧ meth.sig.returnType = ret ∧ c.maxLocals = nL ∧ s.vm.findClass own = some m.cls ∧ (∀ w ∈ cw, w.before args s = true) ∧ meth.locks = false
theorem gV {own C : String} {idx : Nat} {y : MethodName} {ws : List Cond} (h1 : Cond.methodLink own idx y ∈ cw) (h2 : Cond.instanceMethod y ∈ cw) (h3 : Cond.selects C y y ∈ cw) (h4 : Cond.initialized C ∈ cw) (h : GoodIn cw ws) : GoodIn cw (wsV own idx C y ws) := by
  intro w hw
  rcases List.mem_append.mp hw with q | q
  · rcases List.mem_cons.mp q with rfl | q
    · exact ⟨h1, cw_good _ h1⟩
    · rcases List.mem_cons.mp q with rfl | q
      · exact ⟨h2, cw_good _ h2⟩
      · rcases List.mem_cons.mp q with rfl | q
        · exact ⟨h3, cw_good _ h3⟩
        · rcases List.mem_singleton.mp q with rfl
          exact ⟨h4, cw_good _ h4⟩
  · exact h w q
theorem gS {own : String} {idx : Nat} {y : MethodName} {ws : List Cond} (h1 : Cond.methodLink own idx y ∈ cw) (h2 : Cond.static y ∈ cw) (h4 : Cond.initialized y.cls ∈ cw) (h : GoodIn cw ws) : GoodIn cw (va_wsS own idx y ws) := by
  intro w hw
  rcases List.mem_append.mp hw with q | q
  · rcases List.mem_cons.mp q with rfl | q
    · exact ⟨h1, cw_good _ h1⟩
    · rcases List.mem_cons.mp q with rfl | q
      · exact ⟨h2, cw_good _ h2⟩
      · rcases List.mem_singleton.mp q with rfl
        exact ⟨h4, cw_good _ h4⟩
  · exact h w q
/-! what lcmp's answer says -/
theorem lgc_eq {x y : Int64} : lg_cmp x y = 0 ↔ x = y := by
  unfold lg_cmp
  by_cases h1 : y < x
  · simp [h1]; intro h; rw [h] at h1; exact absurd h1 (by simp)
  · by_cases h2 : x = y <;> simp [h1, h2]
theorem lgc_gt {x y : Int64} : 0 < lg_cmp x y ↔ y < x := by
  unfold lg_cmp
  by_cases h1 : y < x
  · simp [h1]
  · by_cases h2 : x = y <;> simp [h1, h2]
theorem lgc_le {x y : Int64} : lg_cmp x y ≤ 0 ↔ x ≤ y := by
  have h := @lgc_gt x y
  rw [Int32.le_iff_toInt_le, Int64.le_iff_toInt_le]
  rw [Int32.lt_iff_toInt_lt, Int64.lt_iff_toInt_lt] at h
  omega
theorem lgc_lt {x y : Int64} : lg_cmp x y < 0 ↔ x < y := by
  have h := @lgc_gt x y
  have h2 := @lgc_eq x y
  rw [← Int32.toInt_inj, ← Int64.toInt_inj] at h2
  rw [Int32.lt_iff_toInt_lt, Int64.lt_iff_toInt_lt] at h ⊢
  simp only [Int32.toInt_zero] at *
  omega
theorem lgc_ge {x y : Int64} : 0 ≤ lg_cmp x y ↔ y ≤ x := by
  have h := @lgc_lt x y
  rw [Int32.le_iff_toInt_le, Int64.le_iff_toInt_le]
  rw [Int32.lt_iff_toInt_lt, Int64.lt_iff_toInt_lt] at h
  omega
end
section
def w_JL_compare (post : Int32 → Prop) (p0 : Int64) (p1 : Int64) : Prop := (p1 ≤ p0 → ((¬ p0 = p1 → (post 1)) ∧ (p0 = p1 → (post 0)))) ∧ (¬ p1 ≤ p0 → (post (-1)))
set_option maxHeartbeats 4000000 in
set_option maxRecDepth 100000 in
theorem t_JL_compare (l : Launch) (p0 : Int64) (p1 : Int64) {post : Int32 → Prop} (hw : w_JL_compare post p0 p1) : Met l y_JL_compare (Cond.code y_JL_compare prog_10_method_42_code 4 (some .int) :: cw) ({ frames := 0, cells := 0, slots := 0, locals := 0 } : Room) (va_Pc [.long p0, .long p1] (fun _ => True)) (vp_Si post) 0 0 (fun _ => False) := by
  refine Met.ofW (cc := prog_10_method_42_code) (maxL := 4) (ret := (some .int)) (by decide) rfl ?_
  intro p e s m args below meth c s₁ B hml hv
  obtain ⟨rfl, -⟩ := hv
  have hx := B.exec
  have hb := B.bytes
  have hr := B.returns
  have hts : ∀ w ∈ cw, w.before _ s = true := fun w h => atoms_spec (ws := (Cond.code y_JL_compare prog_10_method_42_code 4 (some .int) :: cw)) B.pre w (List.mem_cons_of_mem _ h)
  have hown : s.vm.findClass RJL = some m.cls := findClass_of_methodNamed B.named
  have hlocks := B.notSynchronized
  have C0 : cxt p s m _ meth c prog_10_method_42_code 4 RJL (some .int) := ⟨hx, hb, hr, hml, hown, hts, hlocks⟩
  have hl := lv_entry ([.long p0, .long p1]) (n := 4) (Nat.le_of_ble_eq_true rfl)
  rw [lg_entry_eq]
  generalize (lg_sl ([.long p0, .long p1]) ++ List.replicate (4 - (lg_sl ([.long p0, .long p1])).length) Slot.unset).toArray = ls at hl ⊢
  have hl : lv_has ls 4 [(0, .long p0), (2, .long p1)] := hl
  unfold w_JL_compare at hw
  refine lv_lload_n hx hb d_JL_compare_0 rfl (lv_at hl 0 rfl) ?_
  refine lv_lload_n hx hb d_JL_compare_1 rfl (lv_at hl 1 rfl) ?_
  refine W.lcmp hx hb d_JL_compare_2 ?_
  refine lv_if_ge (tgt := 10) hx hb d_JL_compare_3 (by decide) (fun c1 => ?_) (fun c1 => ?_)
  · have c1 : p1 ≤ p0 := (lgc_ge.mp c1)
    have hw := hw.1 c1
    refine lv_lload_n hx hb d_JL_compare_10 rfl (lv_at hl 0 rfl) ?_
    refine lv_lload_n hx hb d_JL_compare_11 rfl (lv_at hl 1 rfl) ?_
    refine W.lcmp hx hb d_JL_compare_12 ?_
    refine lv_if_ne (tgt := 20) hx hb d_JL_compare_13 (by decide) (fun c2 => ?_) (fun c2 => ?_)
    · have c2 : ¬ p0 = p1 := (fun q => c2 (lgc_eq.mpr q))
      have hw := hw.1 c2
      refine lv_iconst (v := 1) hx hb d_JL_compare_20 (by decide) ?_
      exact W.iret (v := 1) hx hb hr (fun t ht hW => ⟨1, rfl, hw, ht⟩) (fun _ h => by cases h) d_JL_compare_21
    · have c2 : p0 = p1 := (lgc_eq.mp c2)
      have hw := hw.2 c2
      refine lv_iconst (v := 0) hx hb d_JL_compare_16 (by decide) ?_
      refine lv_goto (tgt := 21) hx hb d_JL_compare_17 (by decide) ?_
      exact W.iret (v := 0) hx hb hr (fun t ht hW => ⟨0, rfl, hw, ht⟩) (fun _ h => by cases h) d_JL_compare_21
  · have c1 : ¬ p1 ≤ p0 := (fun q => c1 (lgc_ge.mpr q))
    have hw := hw.2 c1
    refine lv_iconst (v := (-1)) hx hb d_JL_compare_6 (by decide) ?_
    refine lv_goto (tgt := 21) hx hb d_JL_compare_7 (by decide) ?_
    exact W.iret (v := (-1)) hx hb hr (fun t ht hW => ⟨(-1), rfl, hw, ht⟩) (fun _ h => by cases h) d_JL_compare_21
def w_K_commonDivisor_9 (post : Int64 → Prop) : Nat → Int64 → Int64 → Int32 → Prop
  | 0, _, _, _ => False
  | n + 1, v4, v6, v8 => (100 ≤ v8 → (post (if 1 < v4 then v4 else 1))) ∧ (¬ 100 ≤ v8 → ((v6 = 0 → (post (if 1 < v4 then v4 else 1))) ∧ (¬ v6 = 0 → (¬ v6 = 0 ∧ (∀ y5 : Int64, y5 = (v4 - v4 / v6 * v6) → (w_K_commonDivisor_9 post n v6 y5 (v8 + 1)))))))
set_option maxHeartbeats 4000000 in
set_option maxRecDepth 100000 in
theorem k_K_commonDivisor_9 {p : Program} {l : Launch} {e : Env} {s : State} {m : MethodId} {args : Array Value} {below : List Frame} {meth : Method} {c : Code} {post : Int64 → Prop} (C0 : cxt p s m args meth c prog_2_method_6_code 11 RK (some .long)) : ∀ (n : Nat), ∀ (v4 : Int64) (v6 : Int64) (v8 : Int32), ∀ ls, lv_has ls 11 [(4, .long v4), (6, .long v6), (8, .int v8)] → w_K_commonDivisor_9 post n v4 v6 v8 → W p l e ({ frames := 1, cells := 0, slots := 0, locals := 23 } : Room) s m args below meth c s.heap [] 0 0 (MQ below (vp_Sl post) args s 0 0 (fun _ => False)) (F0 m 9 ls []) := by
  obtain ⟨hx, hb, hr, hml, hown, hts, hlocks⟩ := id C0
  intro n
  induction n with
  | zero =>
    intro v4 v6 v8 ls hl hw
    exact False.elim hw
  | succ n ih =>
    intro v4 v6 v8 ls hl hw
    rw [w_K_commonDivisor_9] at hw
    refine lv_iload hx hb d_K_commonDivisor_9 (lv_at hl 2 rfl) ?_
    refine lv_bipush (v := 100) hx hb d_K_commonDivisor_11 (by decide) ?_
    refine lv_icmp_ge (tgt := 44) hx hb d_K_commonDivisor_13 (by decide) (fun c2 => ?_) (fun c2 => ?_)
    · skip
      have hw := hw.1 c2
      refine lv_lload hx hb d_K_commonDivisor_44 (lv_at hl 0 rfl) ?_
      refine lv_lconst (v := 1) hx hb d_K_commonDivisor_46 (by decide) ?_
      refine va_mmax_long hx hb (hml.trans hl.1.symm) hown (hts _ m_86) (hts _ m_87) (hts _ m_4) (hts _ m_88) (Nat.le_of_ble_eq_true rfl) (Nat.le_of_ble_eq_true rfl) (Nat.le_of_ble_eq_true rfl) (Nat.le_of_ble_eq_true rfl) d_K_commonDivisor_47 ?_
      exact W.lret (v := (if 1 < v4 then v4 else 1)) hx hb hr (fun t ht hW => ⟨(if 1 < v4 then v4 else 1), rfl, hw, ht⟩) (fun _ h => by cases h) d_K_commonDivisor_50
    · skip
      have hw := hw.2 c2
      refine lv_lload hx hb d_K_commonDivisor_16 (lv_at hl 1 rfl) ?_
      refine lv_lconst (v := 0) hx hb d_K_commonDivisor_18 (by decide) ?_
      refine W.lcmp hx hb d_K_commonDivisor_19 ?_
      refine lv_if_eq (tgt := 44) hx hb d_K_commonDivisor_20 (by decide) (fun c3 => ?_) (fun c3 => ?_)
      · have c3 : v6 = 0 := (lgc_eq.mp c3)
        have hw := hw.1 c3
        refine lv_lload hx hb d_K_commonDivisor_44 (lv_at hl 0 rfl) ?_
        refine lv_lconst (v := 1) hx hb d_K_commonDivisor_46 (by decide) ?_
        refine va_mmax_long hx hb (hml.trans hl.1.symm) hown (hts _ m_86) (hts _ m_87) (hts _ m_4) (hts _ m_88) (Nat.le_of_ble_eq_true rfl) (Nat.le_of_ble_eq_true rfl) (Nat.le_of_ble_eq_true rfl) (Nat.le_of_ble_eq_true rfl) d_K_commonDivisor_47 ?_
        exact W.lret (v := (if 1 < v4 then v4 else 1)) hx hb hr (fun t ht hW => ⟨(if 1 < v4 then v4 else 1), rfl, hw, ht⟩) (fun _ h => by cases h) d_K_commonDivisor_50
      · have c3 : ¬ v6 = 0 := (fun q => c3 (lgc_eq.mpr q))
        have hw := hw.2 c3
        refine lv_lload hx hb d_K_commonDivisor_23 (lv_at hl 0 rfl) ?_
        refine lv_lload hx hb d_K_commonDivisor_25 (lv_at hl 1 rfl) ?_
        obtain ⟨h4, hw⟩ := hw
        refine lv_lrem hx hb d_K_commonDivisor_27 h4 ?_
        refine lv_topl (fun y5 ey5 => ?_)
        have hw := hw y5 ey5
        refine lv_lstore (lv' := [(9, .long y5), (4, .long v4), (6, .long v6), (8, .int v8)]) hx hb d_K_commonDivisor_28 hl (by decide) rfl (fun ls hl => ?_)
        refine lv_lload hx hb d_K_commonDivisor_30 (lv_at hl 2 rfl) ?_
        refine lv_lstore (lv' := [(4, .long v6), (9, .long y5), (6, .long v6), (8, .int v8)]) hx hb d_K_commonDivisor_32 hl (by decide) rfl (fun ls hl => ?_)
        refine lv_lload hx hb d_K_commonDivisor_34 (lv_at hl 1 rfl) ?_
        refine lv_lstore (lv' := [(6, .long y5), (4, .long v6), (9, .long y5), (8, .int v8)]) hx hb d_K_commonDivisor_36 hl (by decide) rfl (fun ls hl => ?_)
        refine lv_iinc (v := (v8 + 1)) (lv' := [(8, .int (v8 + 1)), (6, .long y5), (4, .long v6), (9, .long y5)]) hx hb d_K_commonDivisor_38 hl (k := 3) rfl rfl (by decide) rfl (fun ls hl => ?_)
        refine lv_goto (tgt := 9) hx hb d_K_commonDivisor_41 (by decide) ?_
        exact ih v6 y5 (v8 + 1) ls (lv_sub hl [2, 1, 0] rfl) hw
def w_K_commonDivisor (post : Int64 → Prop) (p0 : Int64) (p1 : Int64) : Prop := ∃ z, w_K_commonDivisor_9 post z p0 p1 0
set_option maxHeartbeats 4000000 in
set_option maxRecDepth 100000 in
theorem t_K_commonDivisor (l : Launch) (p0 : Int64) (p1 : Int64) {post : Int64 → Prop} (hw : w_K_commonDivisor post p0 p1) : Met l y_K_commonDivisor (Cond.code y_K_commonDivisor prog_2_method_6_code 11 (some .long) :: cw) ({ frames := 1, cells := 0, slots := 0, locals := 23 } : Room) (va_Pc [.long p0, .long p1] (fun _ => True)) (vp_Sl post) 0 0 (fun _ => False) := by
  refine Met.ofW (cc := prog_2_method_6_code) (maxL := 11) (ret := (some .long)) (by decide) rfl ?_
  intro p e s m args below meth c s₁ B hml hv
  obtain ⟨rfl, -⟩ := hv
  have hx := B.exec
  have hb := B.bytes
  have hr := B.returns
  have hts : ∀ w ∈ cw, w.before _ s = true := fun w h => atoms_spec (ws := (Cond.code y_K_commonDivisor prog_2_method_6_code 11 (some .long) :: cw)) B.pre w (List.mem_cons_of_mem _ h)
  have hown : s.vm.findClass RK = some m.cls := findClass_of_methodNamed B.named
  have hlocks := B.notSynchronized
  have C0 : cxt p s m _ meth c prog_2_method_6_code 11 RK (some .long) := ⟨hx, hb, hr, hml, hown, hts, hlocks⟩
  have hl := lv_entry ([.long p0, .long p1]) (n := 11) (Nat.le_of_ble_eq_true rfl)
  rw [lg_entry_eq]
  generalize (lg_sl ([.long p0, .long p1]) ++ List.replicate (11 - (lg_sl ([.long p0, .long p1])).length) Slot.unset).toArray = ls at hl ⊢
  have hl : lv_has ls 11 [(0, .long p0), (2, .long p1)] := hl
  unfold w_K_commonDivisor at hw
  refine lv_lload_n hx hb d_K_commonDivisor_0 rfl (lv_at hl 0 rfl) ?_
  refine lv_lstore (lv' := [(4, .long p0), (0, .long p0), (2, .long p1)]) hx hb d_K_commonDivisor_1 hl (by decide) rfl (fun ls hl => ?_)
  refine lv_lload_n hx hb d_K_commonDivisor_3 rfl (lv_at hl 2 rfl) ?_
  refine lv_lstore (lv' := [(6, .long p1), (4, .long p0), (0, .long p0), (2, .long p1)]) hx hb d_K_commonDivisor_4 hl (by decide) rfl (fun ls hl => ?_)
  refine lv_iconst (v := 0) hx hb d_K_commonDivisor_6 (by decide) ?_
  refine lv_istore (lv' := [(8, .int 0), (6, .long p1), (4, .long p0), (0, .long p0), (2, .long p1)]) hx hb d_K_commonDivisor_7 hl (by decide) rfl (fun ls hl => ?_)
  obtain ⟨n1, hw⟩ := hw
  exact k_K_commonDivisor_9 C0 n1 p0 p1 0 ls (lv_sub hl [2, 1, 0] rfl) hw
def w_K_reduced (post : Int64 → Prop) (p0 : Int64) (p1 : Int64) (p2 : Int32) : Prop := w_K_commonDivisor (fun r1 => ((¬ p2 = 0 → (¬ r1 = 0 ∧ (post (p1 / r1)))) ∧ (p2 = 0 → (¬ r1 = 0 ∧ (post (p0 / r1)))))) (if 0 < p0 then p0 else -p0) p1
set_option maxHeartbeats 4000000 in
set_option maxRecDepth 100000 in
theorem t_K_reduced (l : Launch) (p0 : Int64) (p1 : Int64) (p2 : Int32) {post : Int64 → Prop} (hw : w_K_reduced post p0 p1 p2) : Met l y_K_reduced (Cond.code y_K_reduced prog_2_method_5_code 7 (some .long) :: cw) ({ frames := 2, cells := 0, slots := 0, locals := 53 } : Room) (va_Pc [.long p0, .long p1, .int p2] (fun _ => True)) (vp_Sl post) 0 0 (fun _ => False) := by
  refine Met.ofW (cc := prog_2_method_5_code) (maxL := 7) (ret := (some .long)) (by decide) rfl ?_
  intro p e s m args below meth c s₁ B hml hv
  obtain ⟨rfl, -⟩ := hv
  have hx := B.exec
  have hb := B.bytes
  have hr := B.returns
  have hts : ∀ w ∈ cw, w.before _ s = true := fun w h => atoms_spec (ws := (Cond.code y_K_reduced prog_2_method_5_code 7 (some .long) :: cw)) B.pre w (List.mem_cons_of_mem _ h)
  have hown : s.vm.findClass RK = some m.cls := findClass_of_methodNamed B.named
  have hlocks := B.notSynchronized
  have C0 : cxt p s m _ meth c prog_2_method_5_code 7 RK (some .long) := ⟨hx, hb, hr, hml, hown, hts, hlocks⟩
  have hl := lv_entry ([.long p0, .long p1, .int p2]) (n := 7) (Nat.le_of_ble_eq_true rfl)
  rw [lg_entry_eq]
  generalize (lg_sl ([.long p0, .long p1, .int p2]) ++ List.replicate (7 - (lg_sl ([.long p0, .long p1, .int p2])).length) Slot.unset).toArray = ls at hl ⊢
  have hl : lv_has ls 7 [(0, .long p0), (2, .long p1), (4, .int p2)] := hl
  unfold w_K_reduced at hw
  refine lv_lload_n hx hb d_K_reduced_0 rfl (lv_at hl 0 rfl) ?_
  refine va_mabs_long hx hb (hml.trans hl.1.symm) hown (hts _ m_80) (hts _ m_81) (hts _ m_4) (hts _ m_82) (Nat.le_of_ble_eq_true rfl) (Nat.le_of_ble_eq_true rfl) (Nat.le_of_ble_eq_true rfl) (Nat.le_of_ble_eq_true rfl) d_K_reduced_1 ?_
  refine lv_lload_n hx hb d_K_reduced_4 rfl (lv_at hl 1 rfl) ?_
  refine vp_callSl (va_Run.run (va_runS (As := [.long (if 0 < p0 then p0 else -p0), .long p1]) (rest := []) ⟨hx, hb, hml, hown, hts⟩ (t_K_commonDivisor l (if 0 < p0 then p0 else -p0) p1 hw) (va_cwS 2 hts (gS m_83 m_84 m_2 (cw_call m_85)) rfl rfl rfl (by decide +kernel) ⟨Nat.le_of_ble_eq_true rfl, Nat.le_of_ble_eq_true rfl⟩) ⟨pSt_bl, fun U hU hW => ⟨rfl, trivial⟩⟩ rfl rfl hl.1 rfl (lv_room (Nat.le_of_ble_eq_true rfl)) d_K_reduced_5 ⟨Nat.le_of_ble_eq_true rfl, Nat.le_of_ble_eq_true rfl⟩)) (fun r1 hw => ?_)
  refine lv_lstore (lv' := [(5, .long r1), (0, .long p0), (2, .long p1), (4, .int p2)]) hx hb d_K_reduced_8 hl (by decide) rfl (fun ls hl => ?_)
  refine lv_iload hx hb d_K_reduced_10 (lv_at hl 3 rfl) ?_
  refine lv_if_ne (tgt := 19) hx hb d_K_reduced_12 (by decide) (fun c2 => ?_) (fun c2 => ?_)
  · skip
    have hw := hw.1 c2
    refine lv_lload_n hx hb d_K_reduced_19 rfl (lv_at hl 2 rfl) ?_
    refine lv_lload hx hb d_K_reduced_20 (lv_at hl 0 rfl) ?_
    obtain ⟨h3, hw⟩ := hw
    refine lv_ldiv hx hb d_K_reduced_22 h3 ?_
    exact W.lret (v := (p1 / r1)) hx hb hr (fun t ht hW => ⟨(p1 / r1), rfl, hw, ht⟩) (fun _ h => by cases h) d_K_reduced_23
  · skip
    have hw := hw.2 c2
    refine lv_lload_n hx hb d_K_reduced_15 rfl (lv_at hl 1 rfl) ?_
    refine lv_goto (tgt := 20) hx hb d_K_reduced_16 (by decide) ?_
    refine lv_lload hx hb d_K_reduced_20 (lv_at hl 0 rfl) ?_
    obtain ⟨h4, hw⟩ := hw
    refine lv_ldiv hx hb d_K_reduced_22 h4 ?_
    exact W.lret (v := (p0 / r1)) hx hb hr (fun t ht hW => ⟨(p0 / r1), rfl, hw, ht⟩) (fun _ h => by cases h) d_K_reduced_23
def w_K_pieceOf_3 (st : KS) (post : Int32 → Prop) : Nat → Int64 → Int64 → Int32 → Prop
  | 0, _, _, _ => False
  | n + 1, v1, v3, v5 => ((KS.cnt st) ≤ v5 → (post (2 * (KS.cnt st)))) ∧ (¬ (KS.cnt st) ≤ v5 → (vp_in v5 15 ∧ (w_JL_compare (fun r4 => ((0 < r4 → (w_K_pieceOf_3 st post n v1 v3 (v5 + 1))) ∧ (¬ 0 < r4 → ((¬ r4 = 0 → (post (2 * v5))) ∧ (r4 = 0 → (post ((2 * v5) + 1))))))) (v1 * ((KS.dn st) v5.toNatClampNeg)) (((KS.up st) v5.toNatClampNeg) * v3))))
set_option maxHeartbeats 4000000 in
set_option maxRecDepth 100000 in
theorem k_K_pieceOf_3 {p : Program} {l : Launch} {e : Env} {s : State} {m : MethodId} {args : Array Value} {below : List Frame} {meth : Method} {c : Code} {dC : Nat → ClassId} {dI : Nat → Nat → Nat} {h : Nat → Nat} {k : Nat → ClassId} {st : KS} {post : Int32 → Prop} (C0 : cxt p s m args meth c prog_2_method_3_code 7 RK (some .int)) (hK : va_K (dC, dI) vwCl (YK k) s) (hN : va_Nw nestW s) (hP : va_P (dC, dI) vwCl (WK h k st) s.heap) : ∀ (n : Nat), ∀ (v1 : Int64) (v3 : Int64) (v5 : Int32), ∀ ls, lv_has ls 7 [(0, .ref (h 0)), (1, .long v1), (3, .long v3), (5, .int v5)] → w_K_pieceOf_3 st post n v1 v3 v5 → W p l e ({ frames := 1, cells := 0, slots := 0, locals := 23 } : Room) s m args below meth c s.heap [] 0 0 (MQ below (vp_Si post) args s 0 0 (fun _ => False)) (F0 m 3 ls []) := by
  obtain ⟨hx, hb, hr, hml, hown, hts, hlocks⟩ := id C0
  intro n
  induction n with
  | zero =>
    intro v1 v3 v5 ls hl hw
    exact False.elim hw
  | succ n ih =>
    intro v1 v3 v5 ls hl hw
    rw [w_K_pieceOf_3] at hw
    refine lv_iload hx hb d_K_pieceOf_3 (lv_at hl 3 rfl) ?_
    refine lv_aload_n hx hb d_K_pieceOf_5 rfl (lv_at hl 0 rfl) ?_
    refine va_get (D := (dC, dI)) (ci := 0) (v := .int (KS.cnt st)) (C := RK) (T := TK) (N := 3) hx hb hts i_K hown hK hP 0 rfl rfl 2 (by decide) (hts _ m_29) (fun _ h9 => h9) rfl d_K_pieceOf_6 ?_
    refine lv_icmp_ge (tgt := 65) hx hb d_K_pieceOf_9 (by decide) (fun c2 => ?_) (fun c2 => ?_)
    · skip
      have hw := hw.1 c2
      refine lv_iconst (v := 2) hx hb d_K_pieceOf_65 (by decide) ?_
      refine lv_aload_n hx hb d_K_pieceOf_66 rfl (lv_at hl 0 rfl) ?_
      refine va_get (D := (dC, dI)) (ci := 0) (v := .int (KS.cnt st)) (C := RK) (T := TK) (N := 3) hx hb hts i_K hown hK hP 0 rfl rfl 2 (by decide) (hts _ m_29) (fun _ h9 => h9) rfl d_K_pieceOf_67 ?_
      refine lv_imul hx hb d_K_pieceOf_70 ?_
      exact W.iret (v := (2 * (KS.cnt st))) hx hb hr (fun t ht hW => ⟨(2 * (KS.cnt st)), rfl, hw, ht⟩) (fun _ h => by cases h) d_K_pieceOf_71
    · skip
      have hw := hw.2 c2
      refine lv_lload_n hx hb d_K_pieceOf_12 rfl (lv_at hl 1 rfl) ?_
      refine lv_aload_n hx hb d_K_pieceOf_13 rfl (lv_at hl 0 rfl) ?_
      refine va_get (D := (dC, dI)) (ci := 0) (v := .ref (h 2)) (C := RK) (T := TK) (N := 3) hx hb hts i_K hown hK hP 0 rfl rfl 1 (by decide) (hts _ m_28) (fun _ h9 => h9) rfl d_K_pieceOf_14 ?_
      refine lv_iload hx hb d_K_pieceOf_17 (lv_at hl 3 rfl) ?_
      obtain ⟨h3, hw⟩ := hw
      refine va_lald hx hb hK hP 2 1 rfl rfl h3 d_K_pieceOf_19 ?_
      refine lv_lmul hx hb d_K_pieceOf_20 ?_
      refine lv_aload_n hx hb d_K_pieceOf_21 rfl (lv_at hl 0 rfl) ?_
      refine va_get (D := (dC, dI)) (ci := 0) (v := .ref (h 1)) (C := RK) (T := TK) (N := 3) hx hb hts i_K hown hK hP 0 rfl rfl 0 (by decide) (hts _ m_27) (fun _ h9 => h9) rfl d_K_pieceOf_22 ?_
      refine lv_iload hx hb d_K_pieceOf_25 (lv_at hl 3 rfl) ?_
      refine va_lald hx hb hK hP 1 0 rfl rfl h3 d_K_pieceOf_27 ?_
      refine lv_lload_n hx hb d_K_pieceOf_28 rfl (lv_at hl 2 rfl) ?_
      refine lv_lmul hx hb d_K_pieceOf_29 ?_
      refine vp_callSi (va_Run.run (va_runS (As := [.long (v1 * ((KS.dn st) v5.toNatClampNeg)), .long (((KS.up st) v5.toNatClampNeg) * v3)]) (rest := []) ⟨hx, hb, hml, hown, hts⟩ (t_JL_compare l (v1 * ((KS.dn st) v5.toNatClampNeg)) (((KS.up st) v5.toNatClampNeg) * v3) hw) (va_cwS 2 hts (gS m_62 m_63 m_3 (cw_call m_64)) rfl rfl rfl (by decide +kernel) ⟨Nat.le_of_ble_eq_true rfl, Nat.le_of_ble_eq_true rfl⟩) ⟨pSt_bl, fun U hU hW => ⟨rfl, trivial⟩⟩ rfl rfl hl.1 rfl (lv_room (Nat.le_of_ble_eq_true rfl)) d_K_pieceOf_30 ⟨Nat.le_of_ble_eq_true rfl, Nat.le_of_ble_eq_true rfl⟩)) (fun r4 hw => ?_)
      refine lv_istore (lv' := [(6, .int r4), (0, .ref (h 0)), (1, .long v1), (3, .long v3), (5, .int v5)]) hx hb d_K_pieceOf_33 hl (by decide) rfl (fun ls hl => ?_)
      refine lv_iload hx hb d_K_pieceOf_35 (lv_at hl 0 rfl) ?_
      refine lv_if_gt (tgt := 59) hx hb d_K_pieceOf_37 (by decide) (fun c5 => ?_) (fun c5 => ?_)
      · skip
        have hw := hw.1 c5
        refine lv_iinc (v := (v5 + 1)) (lv' := [(5, .int (v5 + 1)), (6, .int r4), (0, .ref (h 0)), (1, .long v1), (3, .long v3)]) hx hb d_K_pieceOf_59 hl (k := 4) rfl rfl (by decide) rfl (fun ls hl => ?_)
        refine lv_goto (tgt := 3) hx hb d_K_pieceOf_62 (by decide) ?_
        exact ih v1 v3 (v5 + 1) ls (lv_sub hl [2, 3, 4, 0] rfl) hw
      · skip
        have hw := hw.2 c5
        refine lv_iload hx hb d_K_pieceOf_40 (lv_at hl 0 rfl) ?_
        refine lv_if_ne (tgt := 54) hx hb d_K_pieceOf_42 (by decide) (fun c6 => ?_) (fun c6 => ?_)
        · skip
          have hw := hw.1 c6
          refine lv_iconst (v := 2) hx hb d_K_pieceOf_54 (by decide) ?_
          refine lv_iload hx hb d_K_pieceOf_55 (lv_at hl 4 rfl) ?_
          refine lv_imul hx hb d_K_pieceOf_57 ?_
          exact W.iret (v := (2 * v5)) hx hb hr (fun t ht hW => ⟨(2 * v5), rfl, hw, ht⟩) (fun _ h => by cases h) d_K_pieceOf_58
        · skip
          have hw := hw.2 c6
          refine lv_iconst (v := 2) hx hb d_K_pieceOf_45 (by decide) ?_
          refine lv_iload hx hb d_K_pieceOf_46 (lv_at hl 4 rfl) ?_
          refine lv_imul hx hb d_K_pieceOf_48 ?_
          refine lv_iconst (v := 1) hx hb d_K_pieceOf_49 (by decide) ?_
          refine lv_iadd hx hb d_K_pieceOf_50 ?_
          refine lv_goto (tgt := 58) hx hb d_K_pieceOf_51 (by decide) ?_
          exact W.iret (v := ((2 * v5) + 1)) hx hb hr (fun t ht hW => ⟨((2 * v5) + 1), rfl, hw, ht⟩) (fun _ h => by cases h) d_K_pieceOf_58
def w_K_pieceOf (st : KS) (post : Int32 → Prop) (p0 : Int64) (p1 : Int64) : Prop := ∃ z, w_K_pieceOf_3 st post z p0 p1 0
set_option maxHeartbeats 4000000 in
set_option maxRecDepth 100000 in
theorem t_K_pieceOf (l : Launch) (dC : Nat → ClassId) (dI : Nat → Nat → Nat) (h : Nat → Nat) (k : Nat → ClassId) (st : KS) (p0 : Int64) (p1 : Int64) {post : Int32 → Prop} (hw : w_K_pieceOf st post p0 p1) : Met l y_K_pieceOf (Cond.code y_K_pieceOf prog_2_method_3_code 7 (some .int) :: cw) ({ frames := 1, cells := 0, slots := 0, locals := 23 } : Room) (va_Pc [.ref (h 0), .long p0, .long p1] (pRo (dC, dI) (WK h k st) (YK k))) (vp_Si post) 0 0 (fun _ => False) := by
  refine Met.ofW (cc := prog_2_method_3_code) (maxL := 7) (ret := (some .int)) (by decide) rfl ?_
  intro p e s m args below meth c s₁ B hml hv
  obtain ⟨rfl, hP, hK, hN⟩ := hv
  have hx := B.exec
  have hb := B.bytes
  have hr := B.returns
  have hts : ∀ w ∈ cw, w.before _ s = true := fun w h => atoms_spec (ws := (Cond.code y_K_pieceOf prog_2_method_3_code 7 (some .int) :: cw)) B.pre w (List.mem_cons_of_mem _ h)
  have hown : s.vm.findClass RK = some m.cls := findClass_of_methodNamed B.named
  have hlocks := B.notSynchronized
  have C0 : cxt p s m _ meth c prog_2_method_3_code 7 RK (some .int) := ⟨hx, hb, hr, hml, hown, hts, hlocks⟩
  have hl := lv_entry ([.ref (h 0), .long p0, .long p1]) (n := 7) (Nat.le_of_ble_eq_true rfl)
  rw [lg_entry_eq]
  generalize (lg_sl ([.ref (h 0), .long p0, .long p1]) ++ List.replicate (7 - (lg_sl ([.ref (h 0), .long p0, .long p1])).length) Slot.unset).toArray = ls at hl ⊢
  have hl : lv_has ls 7 [(0, .ref (h 0)), (1, .long p0), (3, .long p1)] := hl
  unfold w_K_pieceOf at hw
  refine lv_iconst (v := 0) hx hb d_K_pieceOf_0 (by decide) ?_
  refine lv_istore (lv' := [(5, .int 0), (0, .ref (h 0)), (1, .long p0), (3, .long p1)]) hx hb d_K_pieceOf_1 hl (by decide) rfl (fun ls hl => ?_)
  obtain ⟨n1, hw⟩ := hw
  exact k_K_pieceOf_3 C0 hK hN hP n1 p0 p1 0 ls (lv_sub hl [1, 2, 3, 0] rfl) hw
def w_K_samplePart (st : KS) (post : Int64 → Prop) (p0 : Int32) (p1 : Int32) : Prop := (0 < (KS.cnt st) → ((0 < p0 → (∀ y3 : Int32, y3 = (p0 / 2) → ((y3 < (KS.cnt st) → ((¬ (p0 - p0 / 2 * 2) = 1 → (vp_in (y3 - 1) 15 ∧ (vp_in y3 15 ∧ (∀ y8 : Int64, y8 = ((((KS.up st) (y3 - 1).toNatClampNeg) * ((KS.dn st) y3.toNatClampNeg)) + (((KS.up st) y3.toNatClampNeg) * ((KS.dn st) (y3 - 1).toNatClampNeg))) → (w_K_reduced (fun r9 => (post r9)) y8 ((2 * ((KS.dn st) (y3 - 1).toNatClampNeg)) * ((KS.dn st) y3.toNatClampNeg)) p1))))) ∧ ((p0 - p0 / 2 * 2) = 1 → (vp_in y3 15 ∧ (w_K_reduced (fun r11 => (post r11)) ((KS.up st) y3.toNatClampNeg) ((KS.dn st) y3.toNatClampNeg) p1))))) ∧ (¬ y3 < (KS.cnt st) → (vp_in ((KS.cnt st) - 1) 15 ∧ (w_K_reduced (fun r13 => (post r13)) (((KS.up st) ((KS.cnt st) - 1).toNatClampNeg) + ((KS.dn st) ((KS.cnt st) - 1).toNatClampNeg)) ((KS.dn st) ((KS.cnt st) - 1).toNatClampNeg) p1)))))) ∧ (¬ 0 < p0 → (w_K_reduced (fun r14 => (post r14)) (((KS.up st) (0 : Int32).toNatClampNeg) - ((KS.dn st) (0 : Int32).toNatClampNeg)) ((KS.dn st) (0 : Int32).toNatClampNeg) p1)))) ∧ (¬ 0 < (KS.cnt st) → (w_K_reduced (fun r15 => (post r15)) (0 : Int64) (1 : Int64) p1))
set_option maxHeartbeats 4000000 in
set_option maxRecDepth 100000 in
theorem t_K_samplePart (l : Launch) (dC : Nat → ClassId) (dI : Nat → Nat → Nat) (h : Nat → Nat) (k : Nat → ClassId) (st : KS) (p0 : Int32) (p1 : Int32) {post : Int64 → Prop} (hw : w_K_samplePart st post p0 p1) : Met l y_K_samplePart (Cond.code y_K_samplePart prog_2_method_4_code 6 (some .long) :: cw) ({ frames := 3, cells := 0, slots := 0, locals := 79 } : Room) (va_Pc [.ref (h 0), .int p0, .int p1] (pRo (dC, dI) (WK h k st) (YK k))) (vp_Sl post) 0 0 (fun _ => False) := by
  refine Met.ofW (cc := prog_2_method_4_code) (maxL := 6) (ret := (some .long)) (by decide) rfl ?_
  intro p e s m args below meth c s₁ B hml hv
  obtain ⟨rfl, hP, hK, hN⟩ := hv
  have hx := B.exec
  have hb := B.bytes
  have hr := B.returns
  have hts : ∀ w ∈ cw, w.before _ s = true := fun w h => atoms_spec (ws := (Cond.code y_K_samplePart prog_2_method_4_code 6 (some .long) :: cw)) B.pre w (List.mem_cons_of_mem _ h)
  have hown : s.vm.findClass RK = some m.cls := findClass_of_methodNamed B.named
  have hlocks := B.notSynchronized
  have C0 : cxt p s m _ meth c prog_2_method_4_code 6 RK (some .long) := ⟨hx, hb, hr, hml, hown, hts, hlocks⟩
  have hl := lv_entry ([.ref (h 0), .int p0, .int p1]) (n := 6) (Nat.le_of_ble_eq_true rfl)
  rw [lg_entry_eq]
  generalize (lg_sl ([.ref (h 0), .int p0, .int p1]) ++ List.replicate (6 - (lg_sl ([.ref (h 0), .int p0, .int p1])).length) Slot.unset).toArray = ls at hl ⊢
  have hl : lv_has ls 6 [(0, .ref (h 0)), (1, .int p0), (2, .int p1)] := hl
  unfold w_K_samplePart at hw
  refine lv_aload_n hx hb d_K_samplePart_0 rfl (lv_at hl 0 rfl) ?_
  refine va_get (D := (dC, dI)) (ci := 0) (v := .int (KS.cnt st)) (C := RK) (T := TK) (N := 3) hx hb hts i_K hown hK hP 0 rfl rfl 2 (by decide) (hts _ m_29) (fun _ h9 => h9) rfl d_K_samplePart_1 ?_
  refine lv_if_gt (tgt := 14) hx hb d_K_samplePart_4 (by decide) (fun c1 => ?_) (fun c1 => ?_)
  · skip
    have hw := hw.1 c1
    refine lv_iload_n hx hb d_K_samplePart_14 rfl (lv_at hl 1 rfl) ?_
    refine lv_if_gt (tgt := 42) hx hb d_K_samplePart_15 (by decide) (fun c2 => ?_) (fun c2 => ?_)
    · skip
      have hw := hw.1 c2
      refine lv_iload_n hx hb d_K_samplePart_42 rfl (lv_at hl 1 rfl) ?_
      refine lv_iconst (v := 2) hx hb d_K_samplePart_43 (by decide) ?_
      refine lv_idiv hx hb d_K_samplePart_44 (by decide) ?_
      refine lv_topi (fun y3 ey3 => ?_)
      have hw := hw y3 ey3
      refine lv_istore_n (lv' := [(3, .int y3), (0, .ref (h 0)), (1, .int p0), (2, .int p1)]) hx hb d_K_samplePart_45 rfl hl (by decide) rfl (fun ls hl => ?_)
      refine lv_iload_n hx hb d_K_samplePart_46 rfl (lv_at hl 0 rfl) ?_
      refine lv_aload_n hx hb d_K_samplePart_47 rfl (lv_at hl 1 rfl) ?_
      refine va_get (D := (dC, dI)) (ci := 0) (v := .int (KS.cnt st)) (C := RK) (T := TK) (N := 3) hx hb hts i_K hown hK hP 0 rfl rfl 2 (by decide) (hts _ m_29) (fun _ h9 => h9) rfl d_K_samplePart_48 ?_
      refine lv_icmp_lt (tgt := 93) hx hb d_K_samplePart_51 (by decide) (fun c4 => ?_) (fun c4 => ?_)
      · skip
        have hw := hw.1 c4
        refine lv_iload_n hx hb d_K_samplePart_93 rfl (lv_at hl 2 rfl) ?_
        refine lv_iconst (v := 2) hx hb d_K_samplePart_94 (by decide) ?_
        refine lv_irem hx hb d_K_samplePart_95 (by decide) ?_
        refine lv_iconst (v := 1) hx hb d_K_samplePart_96 (by decide) ?_
        refine lv_icmp_ne (tgt := 117) hx hb d_K_samplePart_97 (by decide) (fun c5 => ?_) (fun c5 => ?_)
        · skip
          have hw := hw.1 c5
          refine lv_aload_n hx hb d_K_samplePart_117 rfl (lv_at hl 1 rfl) ?_
          refine va_get (D := (dC, dI)) (ci := 0) (v := .ref (h 1)) (C := RK) (T := TK) (N := 3) hx hb hts i_K hown hK hP 0 rfl rfl 0 (by decide) (hts _ m_27) (fun _ h9 => h9) rfl d_K_samplePart_118 ?_
          refine lv_iload_n hx hb d_K_samplePart_121 rfl (lv_at hl 0 rfl) ?_
          refine lv_iconst (v := 1) hx hb d_K_samplePart_122 (by decide) ?_
          refine lv_isub hx hb d_K_samplePart_123 ?_
          obtain ⟨h6, hw⟩ := hw
          refine va_lald hx hb hK hP 1 0 rfl rfl h6 d_K_samplePart_124 ?_
          refine lv_aload_n hx hb d_K_samplePart_125 rfl (lv_at hl 1 rfl) ?_
          refine va_get (D := (dC, dI)) (ci := 0) (v := .ref (h 2)) (C := RK) (T := TK) (N := 3) hx hb hts i_K hown hK hP 0 rfl rfl 1 (by decide) (hts _ m_28) (fun _ h9 => h9) rfl d_K_samplePart_126 ?_
          refine lv_iload_n hx hb d_K_samplePart_129 rfl (lv_at hl 0 rfl) ?_
          obtain ⟨h7, hw⟩ := hw
          refine va_lald hx hb hK hP 2 1 rfl rfl h7 d_K_samplePart_130 ?_
          refine lv_lmul hx hb d_K_samplePart_131 ?_
          refine lv_aload_n hx hb d_K_samplePart_132 rfl (lv_at hl 1 rfl) ?_
          refine va_get (D := (dC, dI)) (ci := 0) (v := .ref (h 1)) (C := RK) (T := TK) (N := 3) hx hb hts i_K hown hK hP 0 rfl rfl 0 (by decide) (hts _ m_27) (fun _ h9 => h9) rfl d_K_samplePart_133 ?_
          refine lv_iload_n hx hb d_K_samplePart_136 rfl (lv_at hl 0 rfl) ?_
          refine va_lald hx hb hK hP 1 0 rfl rfl h7 d_K_samplePart_137 ?_
          refine lv_aload_n hx hb d_K_samplePart_138 rfl (lv_at hl 1 rfl) ?_
          refine va_get (D := (dC, dI)) (ci := 0) (v := .ref (h 2)) (C := RK) (T := TK) (N := 3) hx hb hts i_K hown hK hP 0 rfl rfl 1 (by decide) (hts _ m_28) (fun _ h9 => h9) rfl d_K_samplePart_139 ?_
          refine lv_iload_n hx hb d_K_samplePart_142 rfl (lv_at hl 0 rfl) ?_
          refine lv_iconst (v := 1) hx hb d_K_samplePart_143 (by decide) ?_
          refine lv_isub hx hb d_K_samplePart_144 ?_
          refine va_lald hx hb hK hP 2 1 rfl rfl h6 d_K_samplePart_145 ?_
          refine lv_lmul hx hb d_K_samplePart_146 ?_
          refine lv_ladd hx hb d_K_samplePart_147 ?_
          refine lv_topl (fun y8 ey8 => ?_)
          have hw := hw y8 ey8
          refine lv_lstore (lv' := [(4, .long y8), (3, .int y3), (0, .ref (h 0)), (1, .int p0), (2, .int p1)]) hx hb d_K_samplePart_148 hl (by decide) rfl (fun ls hl => ?_)
          refine lv_lload hx hb d_K_samplePart_150 (lv_at hl 0 rfl) ?_
          refine lv_ldc2 (v := 2) hx hb hown (hts _ m_89) d_K_samplePart_152 ?_
          refine lv_aload_n hx hb d_K_samplePart_155 rfl (lv_at hl 2 rfl) ?_
          refine va_get (D := (dC, dI)) (ci := 0) (v := .ref (h 2)) (C := RK) (T := TK) (N := 3) hx hb hts i_K hown hK hP 0 rfl rfl 1 (by decide) (hts _ m_28) (fun _ h9 => h9) rfl d_K_samplePart_156 ?_
          refine lv_iload_n hx hb d_K_samplePart_159 rfl (lv_at hl 1 rfl) ?_
          refine lv_iconst (v := 1) hx hb d_K_samplePart_160 (by decide) ?_
          refine lv_isub hx hb d_K_samplePart_161 ?_
          refine va_lald hx hb hK hP 2 1 rfl rfl h6 d_K_samplePart_162 ?_
          refine lv_lmul hx hb d_K_samplePart_163 ?_
          refine lv_aload_n hx hb d_K_samplePart_164 rfl (lv_at hl 2 rfl) ?_
          refine va_get (D := (dC, dI)) (ci := 0) (v := .ref (h 2)) (C := RK) (T := TK) (N := 3) hx hb hts i_K hown hK hP 0 rfl rfl 1 (by decide) (hts _ m_28) (fun _ h9 => h9) rfl d_K_samplePart_165 ?_
          refine lv_iload_n hx hb d_K_samplePart_168 rfl (lv_at hl 1 rfl) ?_
          refine va_lald hx hb hK hP 2 1 rfl rfl h7 d_K_samplePart_169 ?_
          refine lv_lmul hx hb d_K_samplePart_170 ?_
          refine lv_iload_n hx hb d_K_samplePart_171 rfl (lv_at hl 4 rfl) ?_
          refine vp_callSl (va_Run.run (va_runS (As := [.long y8, .long ((2 * ((KS.dn st) (y3 - 1).toNatClampNeg)) * ((KS.dn st) y3.toNatClampNeg)), .int p1]) (rest := []) ⟨hx, hb, hml, hown, hts⟩ (t_K_reduced l y8 ((2 * ((KS.dn st) (y3 - 1).toNatClampNeg)) * ((KS.dn st) y3.toNatClampNeg)) p1 hw) (va_cwS 3 hts (gS m_77 m_78 m_2 (cw_call m_79)) rfl rfl rfl (by decide +kernel) ⟨Nat.le_of_ble_eq_true rfl, Nat.le_of_ble_eq_true rfl⟩) ⟨pSt_bl, fun U hU hW => ⟨rfl, trivial⟩⟩ rfl rfl hl.1 rfl (lv_room (Nat.le_of_ble_eq_true rfl)) d_K_samplePart_172 ⟨Nat.le_of_ble_eq_true rfl, Nat.le_of_ble_eq_true rfl⟩)) (fun r9 hw => ?_)
          exact W.lret (v := r9) hx hb hr (fun t ht hW => ⟨r9, rfl, hw, ht⟩) (fun _ h => by cases h) d_K_samplePart_175
        · skip
          have hw := hw.2 c5
          refine lv_aload_n hx hb d_K_samplePart_100 rfl (lv_at hl 1 rfl) ?_
          refine va_get (D := (dC, dI)) (ci := 0) (v := .ref (h 1)) (C := RK) (T := TK) (N := 3) hx hb hts i_K hown hK hP 0 rfl rfl 0 (by decide) (hts _ m_27) (fun _ h9 => h9) rfl d_K_samplePart_101 ?_
          refine lv_iload_n hx hb d_K_samplePart_104 rfl (lv_at hl 0 rfl) ?_
          obtain ⟨h10, hw⟩ := hw
          refine va_lald hx hb hK hP 1 0 rfl rfl h10 d_K_samplePart_105 ?_
          refine lv_aload_n hx hb d_K_samplePart_106 rfl (lv_at hl 1 rfl) ?_
          refine va_get (D := (dC, dI)) (ci := 0) (v := .ref (h 2)) (C := RK) (T := TK) (N := 3) hx hb hts i_K hown hK hP 0 rfl rfl 1 (by decide) (hts _ m_28) (fun _ h9 => h9) rfl d_K_samplePart_107 ?_
          refine lv_iload_n hx hb d_K_samplePart_110 rfl (lv_at hl 0 rfl) ?_
          refine va_lald hx hb hK hP 2 1 rfl rfl h10 d_K_samplePart_111 ?_
          refine lv_iload_n hx hb d_K_samplePart_112 rfl (lv_at hl 3 rfl) ?_
          refine vp_callSl (va_Run.run (va_runS (As := [.long ((KS.up st) y3.toNatClampNeg), .long ((KS.dn st) y3.toNatClampNeg), .int p1]) (rest := []) ⟨hx, hb, hml, hown, hts⟩ (t_K_reduced l ((KS.up st) y3.toNatClampNeg) ((KS.dn st) y3.toNatClampNeg) p1 hw) (va_cwS 3 hts (gS m_77 m_78 m_2 (cw_call m_79)) rfl rfl rfl (by decide +kernel) ⟨Nat.le_of_ble_eq_true rfl, Nat.le_of_ble_eq_true rfl⟩) ⟨pSt_bl, fun U hU hW => ⟨rfl, trivial⟩⟩ rfl rfl hl.1 rfl (lv_room (Nat.le_of_ble_eq_true rfl)) d_K_samplePart_113 ⟨Nat.le_of_ble_eq_true rfl, Nat.le_of_ble_eq_true rfl⟩)) (fun r11 hw => ?_)
          exact W.lret (v := r11) hx hb hr (fun t ht hW => ⟨r11, rfl, hw, ht⟩) (fun _ h => by cases h) d_K_samplePart_116
      · skip
        have hw := hw.2 c4
        refine lv_aload_n hx hb d_K_samplePart_54 rfl (lv_at hl 1 rfl) ?_
        refine va_get (D := (dC, dI)) (ci := 0) (v := .ref (h 1)) (C := RK) (T := TK) (N := 3) hx hb hts i_K hown hK hP 0 rfl rfl 0 (by decide) (hts _ m_27) (fun _ h9 => h9) rfl d_K_samplePart_55 ?_
        refine lv_aload_n hx hb d_K_samplePart_58 rfl (lv_at hl 1 rfl) ?_
        refine va_get (D := (dC, dI)) (ci := 0) (v := .int (KS.cnt st)) (C := RK) (T := TK) (N := 3) hx hb hts i_K hown hK hP 0 rfl rfl 2 (by decide) (hts _ m_29) (fun _ h9 => h9) rfl d_K_samplePart_59 ?_
        refine lv_iconst (v := 1) hx hb d_K_samplePart_62 (by decide) ?_
        refine lv_isub hx hb d_K_samplePart_63 ?_
        obtain ⟨h12, hw⟩ := hw
        refine va_lald hx hb hK hP 1 0 rfl rfl h12 d_K_samplePart_64 ?_
        refine lv_aload_n hx hb d_K_samplePart_65 rfl (lv_at hl 1 rfl) ?_
        refine va_get (D := (dC, dI)) (ci := 0) (v := .ref (h 2)) (C := RK) (T := TK) (N := 3) hx hb hts i_K hown hK hP 0 rfl rfl 1 (by decide) (hts _ m_28) (fun _ h9 => h9) rfl d_K_samplePart_66 ?_
        refine lv_aload_n hx hb d_K_samplePart_69 rfl (lv_at hl 1 rfl) ?_
        refine va_get (D := (dC, dI)) (ci := 0) (v := .int (KS.cnt st)) (C := RK) (T := TK) (N := 3) hx hb hts i_K hown hK hP 0 rfl rfl 2 (by decide) (hts _ m_29) (fun _ h9 => h9) rfl d_K_samplePart_70 ?_
        refine lv_iconst (v := 1) hx hb d_K_samplePart_73 (by decide) ?_
        refine lv_isub hx hb d_K_samplePart_74 ?_
        refine va_lald hx hb hK hP 2 1 rfl rfl h12 d_K_samplePart_75 ?_
        refine lv_ladd hx hb d_K_samplePart_76 ?_
        refine lv_aload_n hx hb d_K_samplePart_77 rfl (lv_at hl 1 rfl) ?_
        refine va_get (D := (dC, dI)) (ci := 0) (v := .ref (h 2)) (C := RK) (T := TK) (N := 3) hx hb hts i_K hown hK hP 0 rfl rfl 1 (by decide) (hts _ m_28) (fun _ h9 => h9) rfl d_K_samplePart_78 ?_
        refine lv_aload_n hx hb d_K_samplePart_81 rfl (lv_at hl 1 rfl) ?_
        refine va_get (D := (dC, dI)) (ci := 0) (v := .int (KS.cnt st)) (C := RK) (T := TK) (N := 3) hx hb hts i_K hown hK hP 0 rfl rfl 2 (by decide) (hts _ m_29) (fun _ h9 => h9) rfl d_K_samplePart_82 ?_
        refine lv_iconst (v := 1) hx hb d_K_samplePart_85 (by decide) ?_
        refine lv_isub hx hb d_K_samplePart_86 ?_
        refine va_lald hx hb hK hP 2 1 rfl rfl h12 d_K_samplePart_87 ?_
        refine lv_iload_n hx hb d_K_samplePart_88 rfl (lv_at hl 3 rfl) ?_
        refine vp_callSl (va_Run.run (va_runS (As := [.long (((KS.up st) ((KS.cnt st) - 1).toNatClampNeg) + ((KS.dn st) ((KS.cnt st) - 1).toNatClampNeg)), .long ((KS.dn st) ((KS.cnt st) - 1).toNatClampNeg), .int p1]) (rest := []) ⟨hx, hb, hml, hown, hts⟩ (t_K_reduced l (((KS.up st) ((KS.cnt st) - 1).toNatClampNeg) + ((KS.dn st) ((KS.cnt st) - 1).toNatClampNeg)) ((KS.dn st) ((KS.cnt st) - 1).toNatClampNeg) p1 hw) (va_cwS 3 hts (gS m_77 m_78 m_2 (cw_call m_79)) rfl rfl rfl (by decide +kernel) ⟨Nat.le_of_ble_eq_true rfl, Nat.le_of_ble_eq_true rfl⟩) ⟨pSt_bl, fun U hU hW => ⟨rfl, trivial⟩⟩ rfl rfl hl.1 rfl (lv_room (Nat.le_of_ble_eq_true rfl)) d_K_samplePart_89 ⟨Nat.le_of_ble_eq_true rfl, Nat.le_of_ble_eq_true rfl⟩)) (fun r13 hw => ?_)
        exact W.lret (v := r13) hx hb hr (fun t ht hW => ⟨r13, rfl, hw, ht⟩) (fun _ h => by cases h) d_K_samplePart_92
    · skip
      have hw := hw.2 c2
      refine lv_aload_n hx hb d_K_samplePart_18 rfl (lv_at hl 0 rfl) ?_
      refine va_get (D := (dC, dI)) (ci := 0) (v := .ref (h 1)) (C := RK) (T := TK) (N := 3) hx hb hts i_K hown hK hP 0 rfl rfl 0 (by decide) (hts _ m_27) (fun _ h9 => h9) rfl d_K_samplePart_19 ?_
      refine lv_iconst (v := 0) hx hb d_K_samplePart_22 (by decide) ?_
      refine va_lald hx hb hK hP 1 0 rfl rfl (by unfold vp_in; decide) d_K_samplePart_23 ?_
      refine lv_aload_n hx hb d_K_samplePart_24 rfl (lv_at hl 0 rfl) ?_
      refine va_get (D := (dC, dI)) (ci := 0) (v := .ref (h 2)) (C := RK) (T := TK) (N := 3) hx hb hts i_K hown hK hP 0 rfl rfl 1 (by decide) (hts _ m_28) (fun _ h9 => h9) rfl d_K_samplePart_25 ?_
      refine lv_iconst (v := 0) hx hb d_K_samplePart_28 (by decide) ?_
      refine va_lald hx hb hK hP 2 1 rfl rfl (by unfold vp_in; decide) d_K_samplePart_29 ?_
      refine lv_lsub hx hb d_K_samplePart_30 ?_
      refine lv_aload_n hx hb d_K_samplePart_31 rfl (lv_at hl 0 rfl) ?_
      refine va_get (D := (dC, dI)) (ci := 0) (v := .ref (h 2)) (C := RK) (T := TK) (N := 3) hx hb hts i_K hown hK hP 0 rfl rfl 1 (by decide) (hts _ m_28) (fun _ h9 => h9) rfl d_K_samplePart_32 ?_
      refine lv_iconst (v := 0) hx hb d_K_samplePart_35 (by decide) ?_
      refine va_lald hx hb hK hP 2 1 rfl rfl (by unfold vp_in; decide) d_K_samplePart_36 ?_
      refine lv_iload_n hx hb d_K_samplePart_37 rfl (lv_at hl 2 rfl) ?_
      refine vp_callSl (va_Run.run (va_runS (As := [.long (((KS.up st) (0 : Int32).toNatClampNeg) - ((KS.dn st) (0 : Int32).toNatClampNeg)), .long ((KS.dn st) (0 : Int32).toNatClampNeg), .int p1]) (rest := []) ⟨hx, hb, hml, hown, hts⟩ (t_K_reduced l (((KS.up st) (0 : Int32).toNatClampNeg) - ((KS.dn st) (0 : Int32).toNatClampNeg)) ((KS.dn st) (0 : Int32).toNatClampNeg) p1 hw) (va_cwS 3 hts (gS m_77 m_78 m_2 (cw_call m_79)) rfl rfl rfl (by decide +kernel) ⟨Nat.le_of_ble_eq_true rfl, Nat.le_of_ble_eq_true rfl⟩) ⟨pSt_bl, fun U hU hW => ⟨rfl, trivial⟩⟩ rfl rfl hl.1 rfl (lv_room (Nat.le_of_ble_eq_true rfl)) d_K_samplePart_38 ⟨Nat.le_of_ble_eq_true rfl, Nat.le_of_ble_eq_true rfl⟩)) (fun r14 hw => ?_)
      exact W.lret (v := r14) hx hb hr (fun t ht hW => ⟨r14, rfl, hw, ht⟩) (fun _ h => by cases h) d_K_samplePart_41
  · skip
    have hw := hw.2 c1
    refine lv_lconst (v := 0) hx hb d_K_samplePart_7 (by decide) ?_
    refine lv_lconst (v := 1) hx hb d_K_samplePart_8 (by decide) ?_
    refine lv_iload_n hx hb d_K_samplePart_9 rfl (lv_at hl 2 rfl) ?_
    refine vp_callSl (va_Run.run (va_runS (As := [.long 0, .long 1, .int p1]) (rest := []) ⟨hx, hb, hml, hown, hts⟩ (t_K_reduced l (0 : Int64) (1 : Int64) p1 hw) (va_cwS 3 hts (gS m_77 m_78 m_2 (cw_call m_79)) rfl rfl rfl (by decide +kernel) ⟨Nat.le_of_ble_eq_true rfl, Nat.le_of_ble_eq_true rfl⟩) ⟨pSt_bl, fun U hU hW => ⟨rfl, trivial⟩⟩ rfl rfl hl.1 rfl (lv_room (Nat.le_of_ble_eq_true rfl)) d_K_samplePart_10 ⟨Nat.le_of_ble_eq_true rfl, Nat.le_of_ble_eq_true rfl⟩)) (fun r15 hw => ?_)
    exact W.lret (v := r15) hx hb hr (fun t ht hW => ⟨r15, rfl, hw, ht⟩) (fun _ h => by cases h) d_K_samplePart_13
end
section
/-! the worlds of the class and of the reference; what is put back behind a call -/
abbrev CS : Type := (Nat → Int32) × (Nat → Int32) × (Nat → Int32) × Int32 × KS × KS × (Nat → Int64) × (Nat → Int64) × (Nat → Nat → Int32) × (Nat → Int32)
def CS.a (s : CS) : Nat → Int32 := s.1
def CS.set_a (s : CS) (v : Nat → Int32) : CS := (v, s.2)
def CS.b (s : CS) : Nat → Int32 := s.2.1
def CS.set_b (s : CS) (v : Nat → Int32) : CS := (s.1, v, s.2.2)
def CS.c (s : CS) : Nat → Int32 := s.2.2.1
def CS.set_c (s : CS) (v : Nat → Int32) : CS := (s.1, s.2.1, v, s.2.2.2)
def CS.lc (s : CS) : Int32 := s.2.2.2.1
def CS.set_lc (s : CS) (v : Int32) : CS := (s.1, s.2.1, s.2.2.1, v, s.2.2.2.2)
def CS.cu (s : CS) : KS := s.2.2.2.2.1
def CS.set_cu (s : CS) (v : KS) : CS := (s.1, s.2.1, s.2.2.1, s.2.2.2.1, v, s.2.2.2.2.2)
def CS.he (s : CS) : KS := s.2.2.2.2.2.1
def CS.set_he (s : CS) (v : KS) : CS := (s.1, s.2.1, s.2.2.1, s.2.2.2.1, s.2.2.2.2.1, v, s.2.2.2.2.2.2)
def CS.sa (s : CS) : Nat → Int64 := s.2.2.2.2.2.2.1
def CS.set_sa (s : CS) (v : Nat → Int64) : CS := (s.1, s.2.1, s.2.2.1, s.2.2.2.1, s.2.2.2.2.1, s.2.2.2.2.2.1, v, s.2.2.2.2.2.2.2)
def CS.sb (s : CS) : Nat → Int64 := s.2.2.2.2.2.2.2.1
def CS.set_sb (s : CS) (v : Nat → Int64) : CS := (s.1, s.2.1, s.2.2.1, s.2.2.2.1, s.2.2.2.2.1, s.2.2.2.2.2.1, s.2.2.2.2.2.2.1, v, s.2.2.2.2.2.2.2.2)
def CS.pl (s : CS) : Nat → Nat → Int32 := s.2.2.2.2.2.2.2.2.1
def CS.set_pl (s : CS) (v : Nat → Nat → Int32) : CS := (s.1, s.2.1, s.2.2.1, s.2.2.2.1, s.2.2.2.2.1, s.2.2.2.2.2.1, s.2.2.2.2.2.2.1, s.2.2.2.2.2.2.2.1, v, s.2.2.2.2.2.2.2.2.2)
def CS.fc (s : CS) : Nat → Int32 := s.2.2.2.2.2.2.2.2.2
def CS.set_fc (s : CS) (v : Nat → Int32) : CS := (s.1, s.2.1, s.2.2.1, s.2.2.2.1, s.2.2.2.2.1, s.2.2.2.2.2.1, s.2.2.2.2.2.2.1, s.2.2.2.2.2.2.2.1, s.2.2.2.2.2.2.2.2.1, v)
abbrev MS : Type := Int32 × Int32 × (Nat → Int32) × Int32 × (Nat → Int64) × (Nat → Int64) × Int32 × (Nat → Int64) × (Nat → Int64) × Int64 × Int64 × Int64 × Int64 × Int32 × Int32
def MS.code (s : MS) : Int32 := s.1
def MS.set_code (s : MS) (v : Int32) : MS := (v, s.2)
def MS.lines (s : MS) : Int32 := s.2.1
def MS.set_lines (s : MS) (v : Int32) : MS := (s.1, v, s.2.2)
def MS.num (s : MS) : Nat → Int32 := s.2.2.1
def MS.set_num (s : MS) (v : Nat → Int32) : MS := (s.1, s.2.1, v, s.2.2.2)
def MS.cuts (s : MS) : Int32 := s.2.2.2.1
def MS.set_cuts (s : MS) (v : Int32) : MS := (s.1, s.2.1, s.2.2.1, v, s.2.2.2.2)
def MS.cu (s : MS) : Nat → Int64 := s.2.2.2.2.1
def MS.set_cu (s : MS) (v : Nat → Int64) : MS := (s.1, s.2.1, s.2.2.1, s.2.2.2.1, v, s.2.2.2.2.2)
def MS.cd (s : MS) : Nat → Int64 := s.2.2.2.2.2.1
def MS.set_cd (s : MS) (v : Nat → Int64) : MS := (s.1, s.2.1, s.2.2.1, s.2.2.2.1, s.2.2.2.2.1, v, s.2.2.2.2.2.2)
def MS.curves (s : MS) : Int32 := s.2.2.2.2.2.2.1
def MS.set_curves (s : MS) (v : Int32) : MS := (s.1, s.2.1, s.2.2.1, s.2.2.2.1, s.2.2.2.2.1, s.2.2.2.2.2.1, v, s.2.2.2.2.2.2.2)
def MS.yu (s : MS) : Nat → Int64 := s.2.2.2.2.2.2.2.1
def MS.set_yu (s : MS) (v : Nat → Int64) : MS := (s.1, s.2.1, s.2.2.1, s.2.2.2.1, s.2.2.2.2.1, s.2.2.2.2.2.1, s.2.2.2.2.2.2.1, v, s.2.2.2.2.2.2.2.2)
def MS.yd (s : MS) : Nat → Int64 := s.2.2.2.2.2.2.2.2.1
def MS.set_yd (s : MS) (v : Nat → Int64) : MS := (s.1, s.2.1, s.2.2.1, s.2.2.2.1, s.2.2.2.2.1, s.2.2.2.2.2.1, s.2.2.2.2.2.2.1, s.2.2.2.2.2.2.2.1, v, s.2.2.2.2.2.2.2.2.2)
def MS.up (s : MS) : Int64 := s.2.2.2.2.2.2.2.2.2.1
def MS.set_up (s : MS) (v : Int64) : MS := (s.1, s.2.1, s.2.2.1, s.2.2.2.1, s.2.2.2.2.1, s.2.2.2.2.2.1, s.2.2.2.2.2.2.1, s.2.2.2.2.2.2.2.1, s.2.2.2.2.2.2.2.2.1, v, s.2.2.2.2.2.2.2.2.2.2)
def MS.down (s : MS) : Int64 := s.2.2.2.2.2.2.2.2.2.2.1
def MS.set_down (s : MS) (v : Int64) : MS := (s.1, s.2.1, s.2.2.1, s.2.2.2.1, s.2.2.2.2.1, s.2.2.2.2.2.1, s.2.2.2.2.2.2.1, s.2.2.2.2.2.2.2.1, s.2.2.2.2.2.2.2.2.1, s.2.2.2.2.2.2.2.2.2.1, v, s.2.2.2.2.2.2.2.2.2.2.2)
def MS.xu (s : MS) : Int64 := s.2.2.2.2.2.2.2.2.2.2.2.1
def MS.set_xu (s : MS) (v : Int64) : MS := (s.1, s.2.1, s.2.2.1, s.2.2.2.1, s.2.2.2.2.1, s.2.2.2.2.2.1, s.2.2.2.2.2.2.1, s.2.2.2.2.2.2.2.1, s.2.2.2.2.2.2.2.2.1, s.2.2.2.2.2.2.2.2.2.1, s.2.2.2.2.2.2.2.2.2.2.1, v, s.2.2.2.2.2.2.2.2.2.2.2.2)
def MS.xd (s : MS) : Int64 := s.2.2.2.2.2.2.2.2.2.2.2.2.1
def MS.set_xd (s : MS) (v : Int64) : MS := (s.1, s.2.1, s.2.2.1, s.2.2.2.1, s.2.2.2.2.1, s.2.2.2.2.2.1, s.2.2.2.2.2.2.1, s.2.2.2.2.2.2.2.1, s.2.2.2.2.2.2.2.2.1, s.2.2.2.2.2.2.2.2.2.1, s.2.2.2.2.2.2.2.2.2.2.1, s.2.2.2.2.2.2.2.2.2.2.2.1, v, s.2.2.2.2.2.2.2.2.2.2.2.2.2)
def MS.strip (s : MS) : Int32 := s.2.2.2.2.2.2.2.2.2.2.2.2.2.1
def MS.set_strip (s : MS) (v : Int32) : MS := (s.1, s.2.1, s.2.2.1, s.2.2.2.1, s.2.2.2.2.1, s.2.2.2.2.2.1, s.2.2.2.2.2.2.1, s.2.2.2.2.2.2.2.1, s.2.2.2.2.2.2.2.2.1, s.2.2.2.2.2.2.2.2.2.1, s.2.2.2.2.2.2.2.2.2.2.1, s.2.2.2.2.2.2.2.2.2.2.2.1, s.2.2.2.2.2.2.2.2.2.2.2.2.1, v, s.2.2.2.2.2.2.2.2.2.2.2.2.2.2)
def MS.place (s : MS) : Int32 := s.2.2.2.2.2.2.2.2.2.2.2.2.2.2
def MS.set_place (s : MS) (v : Int32) : MS := (s.1, s.2.1, s.2.2.1, s.2.2.2.1, s.2.2.2.2.1, s.2.2.2.2.2.1, s.2.2.2.2.2.2.1, s.2.2.2.2.2.2.2.1, s.2.2.2.2.2.2.2.2.1, s.2.2.2.2.2.2.2.2.2.1, s.2.2.2.2.2.2.2.2.2.2.1, s.2.2.2.2.2.2.2.2.2.2.2.1, s.2.2.2.2.2.2.2.2.2.2.2.2.1, s.2.2.2.2.2.2.2.2.2.2.2.2.2.1, v)
/-- the class: its object, the lines' rows -/
def WC1 (h : Nat → Nat) (k : Nat → ClassId) (s : CS) : va_W := [(h 0, .inr (1, [.ref (h 1), .ref (h 2), .ref (h 3), .int (CS.lc s), .ref (h 4), .ref (h 7), .ref (h 10), .ref (h 11), .ref (h 12), .ref (h 13)])), (h 1, .inl (k 1, 6, .inl (CS.a s))), (h 2, .inl (k 2, 6, .inl (CS.b s))), (h 3, .inl (k 3, 6, .inl (CS.c s)))]
def WCr (h : Nat → Nat) (k : Nat → ClassId) (f : Nat → Nat → Int32) : va_W := (List.range 31).map (fun i => (h (i + 14), .inl (k 14, 6, .inl (f i))))
def WC2 (h : Nat → Nat) (k : Nat → ClassId) (s : CS) : va_W := [(h 10, .inl (k 10, 31, .inr (.inl (CS.sa s)))), (h 11, .inl (k 11, 31, .inr (.inl (CS.sb s)))), (h 12, .inl (k 12, 31, .inr (.inr (.inr (.inr (fun i => if i < 31 then some (h (i + 14)) else none)))))), (h 13, .inl (k 13, 32, .inl (CS.fc s)))] ++ WCr h k (CS.pl s)
def WC (h : Nat → Nat) (k : Nat → ClassId) (s : CS) : va_W := WC1 h k s ++ (WK (fun i => h (4 + i)) (fun i => k (4 + i)) (CS.cu s) ++ (WK (fun i => h (7 + i)) (fun i => k (7 + i)) (CS.he s) ++ WC2 h k s))
abbrev YC (k : Nat → ClassId) : List (ClassId × FieldType) := [(k 1, .int), (k 2, .int), (k 3, .int), (k 5, .long), (k 6, .long), (k 8, .long), (k 9, .long), (k 10, .long), (k 11, .long), (k 12, .array .int), (k 13, .int), (k 14, .int)]
def WM (h : Nat → Nat) (k : Nat → ClassId) (s : MS) : va_W := [(h 0, .inr (2, [.int (MS.code s), .int (MS.lines s), .ref (h 1), .int (MS.cuts s), .ref (h 2), .ref (h 3), .int (MS.curves s), .ref (h 4), .ref (h 5), .long (MS.up s), .long (MS.down s), .long (MS.xu s), .long (MS.xd s), .int (MS.strip s), .int (MS.place s)])), (h 1, .inl (k 1, 18, .inl (MS.num s))), (h 2, .inl (k 2, 24, .inr (.inl (MS.cu s)))), (h 3, .inl (k 3, 24, .inr (.inl (MS.cd s)))), (h 4, .inl (k 4, 6, .inr (.inl (MS.yu s)))), (h 5, .inl (k 5, 6, .inr (.inl (MS.yd s))))]
abbrev YM (k : Nat → ClassId) : List (ClassId × FieldType) := [(k 1, .int), (k 2, .long), (k 3, .long), (k 4, .long), (k 5, .long)]
theorem clamp_lt {i : Int32} {n : Nat} (h : vp_in i n) : i.toNatClampNeg < n := Nat.not_le.mp fun q => h (Or.inr q)
theorem wc_row {h : Nat → Nat} {k : Nat → ClassId} {s : CS} {i : Nat} (hi : i < 31) : (WC h k s)[i + 14]? = some (h (i + 14), .inl (k 14, 6, .inl (CS.pl s i))) := by
  show (WCr h k (CS.pl s))[i]? = _
  unfold WCr
  rw [List.getElem?_map, List.getElem?_range hi]
  rfl
theorem wcr_set {h : Nat → Nat} {k : Nat → ClassId} {f : Nat → Nat → Int32} {g : Nat → Int32} {i : Nat} (hi : i < 31) : (WCr h k f).set i (h (i + 14), .inl (k 14, 6, .inl g)) = WCr h k (va_up f i g) := by
  apply List.ext_getElem?
  intro j
  rw [List.getElem?_set]
  unfold WCr
  rw [List.getElem?_map, List.getElem?_map]
  by_cases hj : j < 31
  · rw [List.getElem?_range hj]
    by_cases e : i = j
    · subst e
      simp [va_up, hi]
    · have e' : ¬ j = i := fun q => e q.symm
      simp [va_up, e, e']
  · have hn : (List.range 31)[j]? = none := List.getElem?_eq_none (by rw [List.length_range]; omega)
    rw [hn, if_neg (by omega)]
    rfl
theorem wc_set {h : Nat → Nat} {k : Nat → ClassId} {s : CS} {g : Nat → Int32} {i : Nat} (hi : i < 31) : (WC h k s).set (i + 14) (h (i + 14), .inl (k 14, 6, .inl g)) = WC h k (CS.set_pl s (va_up (CS.pl s) i g)) := by
  have e := wcr_set (h := h) (k := k) (f := CS.pl s) (g := g) hi
  have e2 : (WC h k s).set (i + 14) (h (i + 14), .inl (k 14, 6, .inl g)) = WC1 h k s ++ (WK (fun i => h (4 + i)) (fun i => k (4 + i)) (CS.cu s) ++ (WK (fun i => h (7 + i)) (fun i => k (7 + i)) (CS.he s) ++ ([(h 10, .inl (k 10, 31, .inr (.inl (CS.sa s)))), (h 11, .inl (k 11, 31, .inr (.inl (CS.sb s)))), (h 12, .inl (k 12, 31, .inr (.inr (.inr (.inr (fun i => if i < 31 then some (h (i + 14)) else none)))))), (h 13, .inl (k 13, 32, .inl (CS.fc s)))] ++ (WCr h k (CS.pl s)).set i (h (i + 14), .inl (k 14, 6, .inl g))))) := rfl
  rw [e2, e]
  rfl
theorem va_freeA {A0 : Nat → Prop} {ws : va_W} {H0 H : Heap} {locs : List Loc} (hD : va_D A0 ws) (hS : va_S A0 H0 H locs) (hA : ∀ q, H0.size ≤ q → A0 q) : ∀ q, va_A ws H.size q → A0 q := by
  intro q h
  rcases h with ⟨k, e, h⟩ | h
  · exact hD.2 k _ h
  · exact hA q (Nat.le_trans hS.1 h)
theorem va_D_addr {A : Nat → Prop} {ws ws' : va_W} (h : ws'.map (·.1) = ws.map (·.1)) (hD : va_D A ws) : va_D A ws' := by
  have key : ∀ (i : Nat) (p : Nat × va_E), ws'[i]? = some p → ∃ p0, ws[i]? = some p0 ∧ p0.1 = p.1 := by
    intro i p hp
    have e : (ws.map (·.1))[i]? = some p.1 := by rw [← h, List.getElem?_map, hp]; rfl
    rw [List.getElem?_map] at e
    cases hw : ws[i]? with
    | none => rw [hw] at e; cases e
    | some p0 => rw [hw] at e; exact ⟨p0, rfl, Option.some.inj e⟩
  refine ⟨fun i j p q hp hq e => ?_, fun i p hp => ?_⟩
  · obtain ⟨p0, h1, h2⟩ := key i p hp
    obtain ⟨q0, h3, h4⟩ := key j q hq
    exact hD.1 i j p0 q0 h1 h3 (by rw [h2, h4, e])
  · obtain ⟨p0, h1, h2⟩ := key i p hp
    rw [← h2]
    exact hD.2 i p0 h1
/-- behind a call that had the middle part of a world: the rest as it was -/
theorem va_swap {D : va_G} {cl : List vw_C} {A0 : Nat → Prop} {pre wc w1 post : va_W} {H H1 : Heap} (hP : va_P D cl (pre ++ (wc ++ post)) H) (hD : va_D A0 (pre ++ (wc ++ post))) (hk : ∀ q : Nat, q < H.size → ¬ va_A wc H.size q → H1[q]? = H[q]?) (hP1 : va_P D cl w1 H1) (ha : w1.map (·.1) = wc.map (·.1)) : va_P D cl (pre ++ (w1 ++ post)) H1 ∧ va_D A0 (pre ++ (w1 ++ post)) := by
  have hlen : w1.length = wc.length := by simpa using congrArg List.length ha
  have keep : ∀ (i : Nat) (q : Nat × va_E), (pre ++ (wc ++ post))[i]? = some q → (i < pre.length ∨ pre.length + wc.length ≤ i) → va_at D cl q H1 := by
    intro i q hq hi
    have hl := (hP i q hq).lt
    refine (hP i q hq).kept (hk q.1 hl fun hz => ?_)
    rcases hz with ⟨j, e, hj⟩ | hz
    · have hjl : j < wc.length := (List.getElem?_eq_some_iff.mp hj).1
      have h2 : (pre ++ (wc ++ post))[pre.length + j]? = some (q.1, e) := by
        rw [List.getElem?_append_right (by omega), Nat.add_sub_cancel_left, List.getElem?_append_left hjl]
        exact hj
      have := hD.1 i (pre.length + j) q (q.1, e) hq h2 rfl
      omega
    · omega
  refine ⟨fun i q hq => ?_, va_D_addr (by rw [List.map_append, List.map_append, ha, ← List.map_append, ← List.map_append]) hD⟩
  by_cases h1 : i < pre.length
  · rw [List.getElem?_append_left h1] at hq
    exact keep i q (by rw [List.getElem?_append_left h1]; exact hq) (Or.inl h1)
  · rw [List.getElem?_append_right (by omega)] at hq
    by_cases h2 : i - pre.length < w1.length
    · rw [List.getElem?_append_left h2] at hq
      exact hP1 _ q hq
    · rw [List.getElem?_append_right (by omega)] at hq
      refine keep i q ?_ (Or.inr (by omega))
      rw [List.getElem?_append_right (by omega), List.getElem?_append_right (by omega), ← hlen]
      exact hq
section GRD
variable {p : Program} {l : Launch} {e : Env} {R : Room} {s : State} {m : MethodId} {args : Array Value} {below : List Frame} {meth : Method} {c : Code} {H : Heap} {locs : List Loc} {cells slots : Nat} {Q : State → Prop}
variable {cc : ByteArray} {pc : Nat} {ls : Array Slot} {rest : List Value} {D : va_G} {cl : List vw_C} {a : Nat} {tys : List (ClassId × FieldType)} {ws : va_W}
theorem va_aldC (hexec : p.tables.exec = Jvm.exec) (hb : c.code = cc) (hK : va_K D cl tys s) (hP : va_P D cl ws H) (q0 t0 : Nat) {cA : ClassId} {t : FieldType} {n : Nat} {r : Nat → Nat} (ha : ws[q0]? = some (a, .inl (cA, n, .inr (.inr (.inr (.inr (fun i => if i < n then some (r i) else none))))))) (ht : tys[t0]? = some (cA, .array t)) {i : Int32} (hin : vp_in i n) (hdg : decode cc pc = .ok (.aaload, 1))
    (kk : W p l e R s m args below meth c H locs cells slots Q (F0 m (pc + 1) ls (.ref (r i.toNatClampNeg) :: rest))) : W p l e R s m args below meth c H locs cells slots Q (F0 m pc ls (.int i :: .ref a :: rest)) := by
  have hlt : i.toNatClampNeg < n := clamp_lt hin
  have ev : va_rf (if i.toNatClampNeg < n then some (r i.toNatClampNeg) else none) = .ref (r i.toNatClampNeg) := by rw [if_pos hlt]; rfl
  exact W.aald (v := .ref (r i.toNatClampNeg)) (ty := .array t) hexec hb (hP q0 _ ha) ((hK.2 t0 _ ht).1 n (fun j => va_rf (if j < n then some (r j) else none))) rfl (fun q => by cases q) (by show ¬ (i < 0 ∨ (arrV _ _ _).slots.size ≤ _); rw [arrV_size]; exact hin) (by show (arrV _ _ _).slots[_]? = _; rw [arrV_read _ _ hlt, ev]) rfl rfl hdg kk
end GRD
end
section
def w_K_insert_38 (post : KS → Prop) : Nat → KS → Int64 → Int64 → Int32 → Int32 → Prop
  | 0, _, _, _, _, _ => False
  | n + 1, st, v1, v3, v6, v7 => (v7 ≤ v6 → (vp_in v6 15 ∧ (post (KS.set_cnt (KS.set_dn (KS.set_up st (vp_updL (KS.up st) v6.toNatClampNeg v1)) (vp_updL (KS.dn st) v6.toNatClampNeg v3)) ((KS.cnt st) + 1))))) ∧ (¬ v7 ≤ v6 → (vp_in (v7 - 1) 15 ∧ (vp_in v7 15 ∧ (w_K_insert_38 post n (KS.set_dn (KS.set_up st (vp_updL (KS.up st) v7.toNatClampNeg ((KS.up st) (v7 - 1).toNatClampNeg))) (vp_updL (KS.dn st) v7.toNatClampNeg ((KS.dn st) (v7 - 1).toNatClampNeg))) v1 v3 v6 (v7 + (-1))))))
set_option maxHeartbeats 4000000 in
set_option maxRecDepth 100000 in
theorem k_K_insert_38 {p : Program} {l : Launch} {e : Env} {s : State} {m : MethodId} {args : Array Value} {below : List Frame} {meth : Method} {c : Code} {dC : Nat → ClassId} {dI : Nat → Nat → Nat} {h : Nat → Nat} {k : Nat → ClassId} {A : Nat → Prop} {post : KS → Prop} (C0 : cxt p s m args meth c prog_2_method_2_code 8 RK none) (hK : va_K (dC, dI) vwCl (YK k) s) (hN : va_Nw nestW s) (hA : ∀ q, s.heap.size ≤ q → A q) : ∀ (n : Nat), ∀ (st : KS) (v1 : Int64) (v3 : Int64) (v6 : Int32) (v7 : Int32) (H : Heap) (locs : List Loc), va_P (dC, dI) vwCl (WK h k st) H → va_D A (WK h k st) → va_S A s.heap H locs → ∀ ls, lv_has ls 8 [(0, .ref (h 0)), (1, .long v1), (3, .long v3), (6, .int v6), (7, .int v7)] → w_K_insert_38 post n st v1 v3 v6 v7 → W p l e ({ frames := 2, cells := 0, slots := 0, locals := 49 } : Room) s m args below meth c H locs 0 0 (MQ below (va_Qv post (fun u t => va_P (dC, dI) vwCl (WK h k u) t.heap ∧ va_D A (WK h k u)) A) args s 0 0 A) (F0 m 38 ls []) := by
  obtain ⟨hx, hb, hr, hml, hown, hts, hlocks⟩ := id C0
  intro n
  induction n with
  | zero =>
    intro st v1 v3 v6 v7 H locs hP hD hS ls hl hw
    exact False.elim hw
  | succ n ih =>
    intro st v1 v3 v6 v7 H locs hP hD hS ls hl hw
    rw [w_K_insert_38] at hw
    refine lv_iload hx hb d_K_insert_38 (lv_at hl 4 rfl) ?_
    refine lv_iload hx hb d_K_insert_40 (lv_at hl 3 rfl) ?_
    refine lv_icmp_le (tgt := 83) hx hb d_K_insert_42 (by decide) (fun c7 => ?_) (fun c7 => ?_)
    · skip
      have hw := hw.1 c7
      refine lv_aload_n hx hb d_K_insert_83 rfl (lv_at hl 0 rfl) ?_
      refine va_get (D := (dC, dI)) (ci := 0) (v := .ref (h 1)) (C := RK) (T := TK) (N := 3) hx hb hts i_K hown hK hP 0 rfl rfl 0 (by decide) (hts _ m_27) (fun _ h9 => h9) rfl d_K_insert_84 ?_
      refine lv_iload hx hb d_K_insert_87 (lv_at hl 3 rfl) ?_
      refine lv_lload_n hx hb d_K_insert_89 rfl (lv_at hl 1 rfl) ?_
      obtain ⟨h8, hw⟩ := hw
      refine va_last hx hb hK hP hD hS 1 0 rfl rfl h8 d_K_insert_90 (fun H locs hP hD hS => ?_)
      have hP : va_P (dC, dI) vwCl (WK h k (KS.set_up st (vp_updL (KS.up st) v6.toNatClampNeg v1))) H := hP
      have hD : va_D A (WK h k (KS.set_up st (vp_updL (KS.up st) v6.toNatClampNeg v1))) := hD
      refine lv_aload_n hx hb d_K_insert_91 rfl (lv_at hl 0 rfl) ?_
      refine va_get (D := (dC, dI)) (ci := 0) (v := .ref (h 2)) (C := RK) (T := TK) (N := 3) hx hb hts i_K hown hK hP 0 rfl rfl 1 (by decide) (hts _ m_28) (fun _ h9 => h9) rfl d_K_insert_92 ?_
      refine lv_iload hx hb d_K_insert_95 (lv_at hl 3 rfl) ?_
      refine lv_lload_n hx hb d_K_insert_97 rfl (lv_at hl 2 rfl) ?_
      refine va_last hx hb hK hP hD hS 2 1 rfl rfl h8 d_K_insert_98 (fun H locs hP hD hS => ?_)
      have hP : va_P (dC, dI) vwCl (WK h k (KS.set_dn (KS.set_up st (vp_updL (KS.up st) v6.toNatClampNeg v1)) (vp_updL (KS.dn st) v6.toNatClampNeg v3))) H := hP
      have hD : va_D A (WK h k (KS.set_dn (KS.set_up st (vp_updL (KS.up st) v6.toNatClampNeg v1)) (vp_updL (KS.dn st) v6.toNatClampNeg v3))) := hD
      refine lv_aload_n hx hb d_K_insert_99 rfl (lv_at hl 0 rfl) ?_
      refine lv_dup hx hb d_K_insert_100 rfl ?_
      refine va_get (D := (dC, dI)) (ci := 0) (v := .int (KS.cnt st)) (C := RK) (T := TK) (N := 3) hx hb hts i_K hown hK hP 0 rfl rfl 2 (by decide) (hts _ m_29) (fun _ h9 => h9) rfl d_K_insert_101 ?_
      refine lv_iconst (v := 1) hx hb d_K_insert_104 (by decide) ?_
      refine lv_iadd hx hb d_K_insert_105 ?_
      refine va_put (D := (dC, dI)) (ci := 0) (v := .int ((KS.cnt st) + 1)) (ty := .int) (C := RK) (T := TK) (N := 3) hx hb hts i_K tyK tyK_ok nmK hown hK hP hD hS 0 rfl rfl 2 (by decide) (hts _ m_29) (fun _ h9 => h9) rfl (by decide +kernel) rfl rfl (Nat.le_of_ble_eq_true rfl) d_K_insert_106 (fun H locs hP hD hS => ?_)
      have hP : va_P (dC, dI) vwCl (WK h k (KS.set_cnt (KS.set_dn (KS.set_up st (vp_updL (KS.up st) v6.toNatClampNeg v1)) (vp_updL (KS.dn st) v6.toNatClampNeg v3)) ((KS.cnt st) + 1))) H := hP
      have hD : va_D A (WK h k (KS.set_cnt (KS.set_dn (KS.set_up st (vp_updL (KS.up st) v6.toNatClampNeg v1)) (vp_updL (KS.dn st) v6.toNatClampNeg v3)) ((KS.cnt st) + 1))) := hD
      exact W.vret hx hb hr (fun t ht hW => ⟨⟨(KS.set_cnt (KS.set_dn (KS.set_up st (vp_updL (KS.up st) v6.toNatClampNeg v1)) (vp_updL (KS.dn st) v6.toNatClampNeg v3)) ((KS.cnt st) + 1)), rfl, hw, by rw [ht]; exact hP, hD⟩, hS.F ht⟩) hS.2.2 d_K_insert_109
    · skip
      have hw := hw.2 c7
      refine lv_aload_n hx hb d_K_insert_45 rfl (lv_at hl 0 rfl) ?_
      refine va_get (D := (dC, dI)) (ci := 0) (v := .ref (h 1)) (C := RK) (T := TK) (N := 3) hx hb hts i_K hown hK hP 0 rfl rfl 0 (by decide) (hts _ m_27) (fun _ h9 => h9) rfl d_K_insert_46 ?_
      refine lv_iload hx hb d_K_insert_49 (lv_at hl 4 rfl) ?_
      refine lv_aload_n hx hb d_K_insert_51 rfl (lv_at hl 0 rfl) ?_
      refine va_get (D := (dC, dI)) (ci := 0) (v := .ref (h 1)) (C := RK) (T := TK) (N := 3) hx hb hts i_K hown hK hP 0 rfl rfl 0 (by decide) (hts _ m_27) (fun _ h9 => h9) rfl d_K_insert_52 ?_
      refine lv_iload hx hb d_K_insert_55 (lv_at hl 4 rfl) ?_
      refine lv_iconst (v := 1) hx hb d_K_insert_57 (by decide) ?_
      refine lv_isub hx hb d_K_insert_58 ?_
      obtain ⟨h9, hw⟩ := hw
      refine va_lald hx hb hK hP 1 0 rfl rfl h9 d_K_insert_59 ?_
      obtain ⟨h10, hw⟩ := hw
      refine va_last hx hb hK hP hD hS 1 0 rfl rfl h10 d_K_insert_60 (fun H locs hP hD hS => ?_)
      have hP : va_P (dC, dI) vwCl (WK h k (KS.set_up st (vp_updL (KS.up st) v7.toNatClampNeg ((KS.up st) (v7 - 1).toNatClampNeg)))) H := hP
      have hD : va_D A (WK h k (KS.set_up st (vp_updL (KS.up st) v7.toNatClampNeg ((KS.up st) (v7 - 1).toNatClampNeg)))) := hD
      refine lv_aload_n hx hb d_K_insert_61 rfl (lv_at hl 0 rfl) ?_
      refine va_get (D := (dC, dI)) (ci := 0) (v := .ref (h 2)) (C := RK) (T := TK) (N := 3) hx hb hts i_K hown hK hP 0 rfl rfl 1 (by decide) (hts _ m_28) (fun _ h9 => h9) rfl d_K_insert_62 ?_
      refine lv_iload hx hb d_K_insert_65 (lv_at hl 4 rfl) ?_
      refine lv_aload_n hx hb d_K_insert_67 rfl (lv_at hl 0 rfl) ?_
      refine va_get (D := (dC, dI)) (ci := 0) (v := .ref (h 2)) (C := RK) (T := TK) (N := 3) hx hb hts i_K hown hK hP 0 rfl rfl 1 (by decide) (hts _ m_28) (fun _ h9 => h9) rfl d_K_insert_68 ?_
      refine lv_iload hx hb d_K_insert_71 (lv_at hl 4 rfl) ?_
      refine lv_iconst (v := 1) hx hb d_K_insert_73 (by decide) ?_
      refine lv_isub hx hb d_K_insert_74 ?_
      refine va_lald hx hb hK hP 2 1 rfl rfl h9 d_K_insert_75 ?_
      refine va_last hx hb hK hP hD hS 2 1 rfl rfl h10 d_K_insert_76 (fun H locs hP hD hS => ?_)
      have hP : va_P (dC, dI) vwCl (WK h k (KS.set_dn (KS.set_up st (vp_updL (KS.up st) v7.toNatClampNeg ((KS.up st) (v7 - 1).toNatClampNeg))) (vp_updL (KS.dn st) v7.toNatClampNeg ((KS.dn st) (v7 - 1).toNatClampNeg)))) H := hP
      have hD : va_D A (WK h k (KS.set_dn (KS.set_up st (vp_updL (KS.up st) v7.toNatClampNeg ((KS.up st) (v7 - 1).toNatClampNeg))) (vp_updL (KS.dn st) v7.toNatClampNeg ((KS.dn st) (v7 - 1).toNatClampNeg)))) := hD
      refine lv_iinc (v := (v7 + (-1))) (lv' := [(7, .int (v7 + (-1))), (0, .ref (h 0)), (1, .long v1), (3, .long v3), (6, .int v6)]) hx hb d_K_insert_77 hl (k := 4) rfl rfl (by decide) rfl (fun ls hl => ?_)
      refine lv_goto (tgt := 38) hx hb d_K_insert_80 (by decide) ?_
      exact ih (KS.set_dn (KS.set_up st (vp_updL (KS.up st) v7.toNatClampNeg ((KS.up st) (v7 - 1).toNatClampNeg))) (vp_updL (KS.dn st) v7.toNatClampNeg ((KS.dn st) (v7 - 1).toNatClampNeg))) v1 v3 v6 (v7 + (-1)) _ _ hP hD hS ls (lv_sub hl [1, 2, 3, 4, 0] rfl) hw
def w_K_insert (st : KS) (post : KS → Prop) (p0 : Int64) (p1 : Int64) : Prop := w_K_pieceOf st (fun r1 => (((r1 - r1 / 2 * 2) = 1 → (post st)) ∧ (¬ (r1 - r1 / 2 * 2) = 1 → (((KS.cnt st) < 15 → (∀ y4 : Int32, y4 = (r1 / 2) → (∀ y5 : Int32, y5 = (KS.cnt st) → (∃ z, w_K_insert_38 post z st p0 p1 y4 y5)))) ∧ (¬ (KS.cnt st) < 15 → (post st)))))) p0 p1
set_option maxHeartbeats 4000000 in
set_option maxRecDepth 100000 in
theorem t_K_insert (l : Launch) (dC : Nat → ClassId) (dI : Nat → Nat → Nat) (h : Nat → Nat) (k : Nat → ClassId) (sz : Nat) (st : KS) (p0 : Int64) (p1 : Int64) {post : KS → Prop} (hw : w_K_insert st post p0 p1) : Met l y_K_insert (Cond.code y_K_insert prog_2_method_2_code 8 none :: cw) ({ frames := 2, cells := 0, slots := 0, locals := 49 } : Room) (va_Pc [.ref (h 0), .long p0, .long p1] (pRw (dC, dI) (WK h k st) (YK k) sz)) (va_Qv post (fun u t => va_P (dC, dI) vwCl (WK h k u) t.heap ∧ va_D (va_A (WK h k st) sz) (WK h k u)) (va_A (WK h k st) sz)) 0 0 (va_A (WK h k st) sz) := by
  refine Met.ofW (cc := prog_2_method_2_code) (maxL := 8) (ret := none) (by decide) rfl ?_
  intro p e s m args below meth c s₁ B hml hv
  obtain ⟨rfl, hsz, hP, hK, hN, hD0⟩ := hv
  have hx := B.exec
  have hb := B.bytes
  have hr := B.returns
  have hts : ∀ w ∈ cw, w.before _ s = true := fun w h => atoms_spec (ws := (Cond.code y_K_insert prog_2_method_2_code 8 none :: cw)) B.pre w (List.mem_cons_of_mem _ h)
  have hown : s.vm.findClass RK = some m.cls := findClass_of_methodNamed B.named
  have hlocks := B.notSynchronized
  have C0 : cxt p s m _ meth c prog_2_method_2_code 8 RK none := ⟨hx, hb, hr, hml, hown, hts, hlocks⟩
  subst hsz
  have hD := hD0.self (sz := s.heap.size)
  generalize hAe : va_A (WK h k st) s.heap.size = A at hD ⊢
  have hA : ∀ q : Nat, s.heap.size ≤ q → A q := fun q h => by rw [← hAe]; exact Or.inr h
  have hS : va_S A s.heap s.heap [] := va_S.rf
  have hl := lv_entry ([.ref (h 0), .long p0, .long p1]) (n := 8) (Nat.le_of_ble_eq_true rfl)
  rw [lg_entry_eq]
  generalize (lg_sl ([.ref (h 0), .long p0, .long p1]) ++ List.replicate (8 - (lg_sl ([.ref (h 0), .long p0, .long p1])).length) Slot.unset).toArray = ls at hl ⊢
  have hl : lv_has ls 8 [(0, .ref (h 0)), (1, .long p0), (3, .long p1)] := hl
  unfold w_K_insert at hw
  refine lv_aload_n hx hb d_K_insert_0 rfl (lv_at hl 0 rfl) ?_
  refine lv_lload_n hx hb d_K_insert_1 rfl (lv_at hl 1 rfl) ?_
  refine lv_lload_n hx hb d_K_insert_2 rfl (lv_at hl 2 rfl) ?_
  refine vp_callSi (va_Run.run (va_runV (As := [.long p0, .long p1]) (rest := []) ⟨hx, hb, hml, hown, hts⟩ (t_K_pieceOf l dC dI h k st p0 p1 hw) (cwV 2 hts (gV m_58 m_59 m_60 m_2 (cw_call m_61)) rfl rfl rfl (by decide +kernel) ⟨Nat.le_of_ble_eq_true rfl, Nat.le_of_ble_eq_true rfl⟩) ⟨pRo_bl, va_recv hK hP (ci := 0) (q0 := 0) rfl rfl, fun U hU hW => ⟨rfl, pRo_at hP hK hN hU hW⟩⟩ rfl rfl hl.1 rfl (lv_room (Nat.le_of_ble_eq_true rfl)) d_K_insert_3 ⟨Nat.le_of_ble_eq_true rfl, Nat.le_of_ble_eq_true rfl⟩)) (fun r1 hw => ?_)
  refine lv_istore (lv' := [(5, .int r1), (0, .ref (h 0)), (1, .long p0), (3, .long p1)]) hx hb d_K_insert_6 hl (by decide) rfl (fun ls hl => ?_)
  refine lv_iload hx hb d_K_insert_8 (lv_at hl 0 rfl) ?_
  refine lv_iconst (v := 2) hx hb d_K_insert_10 (by decide) ?_
  refine lv_irem hx hb d_K_insert_11 (by decide) ?_
  refine lv_iconst (v := 1) hx hb d_K_insert_12 (by decide) ?_
  refine lv_icmp_eq (tgt := 25) hx hb d_K_insert_13 (by decide) (fun c2 => ?_) (fun c2 => ?_)
  · skip
    have hw := hw.1 c2
    exact W.vret hx hb hr (fun t ht hW => ⟨⟨st, rfl, hw, by rw [ht]; exact hP, hD⟩, hS.F ht⟩) hS.2.2 d_K_insert_25
  · skip
    have hw := hw.2 c2
    refine lv_aload_n hx hb d_K_insert_16 rfl (lv_at hl 1 rfl) ?_
    refine va_get (D := (dC, dI)) (ci := 0) (v := .int (KS.cnt st)) (C := RK) (T := TK) (N := 3) hx hb hts i_K hown hK hP 0 rfl rfl 2 (by decide) (hts _ m_29) (fun _ h9 => h9) rfl d_K_insert_17 ?_
    refine lv_bipush (v := 15) hx hb d_K_insert_20 (by decide) ?_
    refine lv_icmp_lt (tgt := 26) hx hb d_K_insert_22 (by decide) (fun c3 => ?_) (fun c3 => ?_)
    · skip
      have hw := hw.1 c3
      refine lv_iload hx hb d_K_insert_26 (lv_at hl 0 rfl) ?_
      refine lv_iconst (v := 2) hx hb d_K_insert_28 (by decide) ?_
      refine lv_idiv hx hb d_K_insert_29 (by decide) ?_
      refine lv_topi (fun y4 ey4 => ?_)
      have hw := hw y4 ey4
      refine lv_istore (lv' := [(6, .int y4), (5, .int r1), (0, .ref (h 0)), (1, .long p0), (3, .long p1)]) hx hb d_K_insert_30 hl (by decide) rfl (fun ls hl => ?_)
      refine lv_aload_n hx hb d_K_insert_32 rfl (lv_at hl 2 rfl) ?_
      refine va_get (D := (dC, dI)) (ci := 0) (v := .int (KS.cnt st)) (C := RK) (T := TK) (N := 3) hx hb hts i_K hown hK hP 0 rfl rfl 2 (by decide) (hts _ m_29) (fun _ h9 => h9) rfl d_K_insert_33 ?_
      refine lv_topi (fun y5 ey5 => ?_)
      have hw := hw y5 ey5
      refine lv_istore (lv' := [(7, .int y5), (6, .int y4), (5, .int r1), (0, .ref (h 0)), (1, .long p0), (3, .long p1)]) hx hb d_K_insert_36 hl (by decide) rfl (fun ls hl => ?_)
      obtain ⟨n6, hw⟩ := hw
      exact k_K_insert_38 C0 hK hN hA n6 st p0 p1 y4 y5 _ _ hP hD hS ls (lv_sub hl [3, 4, 5, 1, 0] rfl) hw
    · skip
      have hw := hw.2 c3
      exact W.vret hx hb hr (fun t ht hW => ⟨⟨st, rfl, hw, by rw [ht]; exact hP, hD⟩, hS.F ht⟩) hS.2.2 d_K_insert_25
end
section
def w_JI_compare (post : Int32 → Prop) (p0 : Int32) (p1 : Int32) : Prop := (p1 ≤ p0 → ((¬ p0 = p1 → (post 1)) ∧ (p0 = p1 → (post 0)))) ∧ (¬ p1 ≤ p0 → (post (-1)))
set_option maxHeartbeats 4000000 in
set_option maxRecDepth 100000 in
theorem t_JI_compare (l : Launch) (p0 : Int32) (p1 : Int32) {post : Int32 → Prop} (hw : w_JI_compare post p0 p1) : Met l y_JI_compare (Cond.code y_JI_compare prog_9_method_40_code 2 (some .int) :: cw) ({ frames := 0, cells := 0, slots := 0, locals := 0 } : Room) (va_Pc [.int p0, .int p1] (fun _ => True)) (vp_Si post) 0 0 (fun _ => False) := by
  refine Met.ofW (cc := prog_9_method_40_code) (maxL := 2) (ret := (some .int)) (by decide) rfl ?_
  intro p e s m args below meth c s₁ B hml hv
  obtain ⟨rfl, -⟩ := hv
  have hx := B.exec
  have hb := B.bytes
  have hr := B.returns
  have hts : ∀ w ∈ cw, w.before _ s = true := fun w h => atoms_spec (ws := (Cond.code y_JI_compare prog_9_method_40_code 2 (some .int) :: cw)) B.pre w (List.mem_cons_of_mem _ h)
  have hown : s.vm.findClass RJI = some m.cls := findClass_of_methodNamed B.named
  have hlocks := B.notSynchronized
  have C0 : cxt p s m _ meth c prog_9_method_40_code 2 RJI (some .int) := ⟨hx, hb, hr, hml, hown, hts, hlocks⟩
  have hl := lv_entry ([.int p0, .int p1]) (n := 2) (Nat.le_of_ble_eq_true rfl)
  rw [lg_entry_eq]
  generalize (lg_sl ([.int p0, .int p1]) ++ List.replicate (2 - (lg_sl ([.int p0, .int p1])).length) Slot.unset).toArray = ls at hl ⊢
  have hl : lv_has ls 2 [(0, .int p0), (1, .int p1)] := hl
  unfold w_JI_compare at hw
  refine lv_iload_n hx hb d_JI_compare_0 rfl (lv_at hl 0 rfl) ?_
  refine lv_iload_n hx hb d_JI_compare_1 rfl (lv_at hl 1 rfl) ?_
  refine lv_icmp_ge (tgt := 9) hx hb d_JI_compare_2 (by decide) (fun c1 => ?_) (fun c1 => ?_)
  · skip
    have hw := hw.1 c1
    refine lv_iload_n hx hb d_JI_compare_9 rfl (lv_at hl 0 rfl) ?_
    refine lv_iload_n hx hb d_JI_compare_10 rfl (lv_at hl 1 rfl) ?_
    refine lv_icmp_ne (tgt := 18) hx hb d_JI_compare_11 (by decide) (fun c2 => ?_) (fun c2 => ?_)
    · skip
      have hw := hw.1 c2
      refine lv_iconst (v := 1) hx hb d_JI_compare_18 (by decide) ?_
      exact W.iret (v := 1) hx hb hr (fun t ht hW => ⟨1, rfl, hw, ht⟩) (fun _ h => by cases h) d_JI_compare_19
    · skip
      have hw := hw.2 c2
      refine lv_iconst (v := 0) hx hb d_JI_compare_14 (by decide) ?_
      refine lv_goto (tgt := 19) hx hb d_JI_compare_15 (by decide) ?_
      exact W.iret (v := 0) hx hb hr (fun t ht hW => ⟨0, rfl, hw, ht⟩) (fun _ h => by cases h) d_JI_compare_19
  · skip
    have hw := hw.2 c1
    refine lv_iconst (v := (-1)) hx hb d_JI_compare_5 (by decide) ?_
    refine lv_goto (tgt := 19) hx hb d_JI_compare_6 (by decide) ?_
    exact W.iret (v := (-1)) hx hb hr (fun t ht hW => ⟨(-1), rfl, hw, ht⟩) (fun _ h => by cases h) d_JI_compare_19
def w_C_isFactor (post : Int32 → Prop) (p0 : Int32) : Prop := (p0 < (-6) → (post 0)) ∧ (¬ p0 < (-6) → ((6 < p0 → (post 0)) ∧ (¬ 6 < p0 → (post 1))))
set_option maxHeartbeats 4000000 in
set_option maxRecDepth 100000 in
theorem t_C_isFactor (l : Launch) (p0 : Int32) {post : Int32 → Prop} (hw : w_C_isFactor post p0) : Met l y_C_isFactor (Cond.code y_C_isFactor prog_1_method_15_code 1 (some .boolean) :: cw) ({ frames := 0, cells := 0, slots := 0, locals := 0 } : Room) (va_Pc [.int p0] (fun _ => True)) (vp_Si post) 0 0 (fun _ => False) := by
  refine Met.ofW (cc := prog_1_method_15_code) (maxL := 1) (ret := (some .boolean)) (by decide) rfl ?_
  intro p e s m args below meth c s₁ B hml hv
  obtain ⟨rfl, -⟩ := hv
  have hx := B.exec
  have hb := B.bytes
  have hr := B.returns
  have hts : ∀ w ∈ cw, w.before _ s = true := fun w h => atoms_spec (ws := (Cond.code y_C_isFactor prog_1_method_15_code 1 (some .boolean) :: cw)) B.pre w (List.mem_cons_of_mem _ h)
  have hown : s.vm.findClass RC = some m.cls := findClass_of_methodNamed B.named
  have hlocks := B.notSynchronized
  have C0 : cxt p s m _ meth c prog_1_method_15_code 1 RC (some .boolean) := ⟨hx, hb, hr, hml, hown, hts, hlocks⟩
  have hl := lv_entry ([.int p0]) (n := 1) (Nat.le_of_ble_eq_true rfl)
  rw [lg_entry_eq]
  generalize (lg_sl ([.int p0]) ++ List.replicate (1 - (lg_sl ([.int p0])).length) Slot.unset).toArray = ls at hl ⊢
  have hl : lv_has ls 1 [(0, .int p0)] := hl
  unfold w_C_isFactor at hw
  refine lv_iload_n hx hb d_C_isFactor_0 rfl (lv_at hl 0 rfl) ?_
  refine lv_bipush (v := (-6)) hx hb d_C_isFactor_1 (by decide) ?_
  refine lv_icmp_lt (tgt := 16) hx hb d_C_isFactor_3 (by decide) (fun c1 => ?_) (fun c1 => ?_)
  · skip
    have hw := hw.1 c1
    refine lv_iconst (v := 0) hx hb d_C_isFactor_16 (by decide) ?_
    exact W.zret (v := 0) hx hb hr rfl (fun t ht hW => ⟨0, rfl, hw, ht⟩) (fun _ h => by cases h) d_C_isFactor_17
  · skip
    have hw := hw.2 c1
    refine lv_iload_n hx hb d_C_isFactor_6 rfl (lv_at hl 0 rfl) ?_
    refine lv_bipush (v := 6) hx hb d_C_isFactor_7 (by decide) ?_
    refine lv_icmp_gt (tgt := 16) hx hb d_C_isFactor_9 (by decide) (fun c2 => ?_) (fun c2 => ?_)
    · skip
      have hw := hw.1 c2
      refine lv_iconst (v := 0) hx hb d_C_isFactor_16 (by decide) ?_
      exact W.zret (v := 0) hx hb hr rfl (fun t ht hW => ⟨0, rfl, hw, ht⟩) (fun _ h => by cases h) d_C_isFactor_17
    · skip
      have hw := hw.2 c2
      refine lv_iconst (v := 1) hx hb d_C_isFactor_12 (by decide) ?_
      refine lv_goto (tgt := 17) hx hb d_C_isFactor_13 (by decide) ?_
      exact W.zret (v := 1) hx hb hr rfl (fun t ht hW => ⟨1, rfl, hw, ht⟩) (fun _ h => by cases h) d_C_isFactor_17
def w_C_isNear (post : Int32 → Prop) (p0 : Int32) : Prop := (p0 < (-100) → (post 0)) ∧ (¬ p0 < (-100) → ((100 < p0 → (post 0)) ∧ (¬ 100 < p0 → (post 1))))
set_option maxHeartbeats 4000000 in
set_option maxRecDepth 100000 in
theorem t_C_isNear (l : Launch) (p0 : Int32) {post : Int32 → Prop} (hw : w_C_isNear post p0) : Met l y_C_isNear (Cond.code y_C_isNear prog_1_method_16_code 1 (some .boolean) :: cw) ({ frames := 0, cells := 0, slots := 0, locals := 0 } : Room) (va_Pc [.int p0] (fun _ => True)) (vp_Si post) 0 0 (fun _ => False) := by
  refine Met.ofW (cc := prog_1_method_16_code) (maxL := 1) (ret := (some .boolean)) (by decide) rfl ?_
  intro p e s m args below meth c s₁ B hml hv
  obtain ⟨rfl, -⟩ := hv
  have hx := B.exec
  have hb := B.bytes
  have hr := B.returns
  have hts : ∀ w ∈ cw, w.before _ s = true := fun w h => atoms_spec (ws := (Cond.code y_C_isNear prog_1_method_16_code 1 (some .boolean) :: cw)) B.pre w (List.mem_cons_of_mem _ h)
  have hown : s.vm.findClass RC = some m.cls := findClass_of_methodNamed B.named
  have hlocks := B.notSynchronized
  have C0 : cxt p s m _ meth c prog_1_method_16_code 1 RC (some .boolean) := ⟨hx, hb, hr, hml, hown, hts, hlocks⟩
  have hl := lv_entry ([.int p0]) (n := 1) (Nat.le_of_ble_eq_true rfl)
  rw [lg_entry_eq]
  generalize (lg_sl ([.int p0]) ++ List.replicate (1 - (lg_sl ([.int p0])).length) Slot.unset).toArray = ls at hl ⊢
  have hl : lv_has ls 1 [(0, .int p0)] := hl
  unfold w_C_isNear at hw
  refine lv_iload_n hx hb d_C_isNear_0 rfl (lv_at hl 0 rfl) ?_
  refine lv_bipush (v := (-100)) hx hb d_C_isNear_1 (by decide) ?_
  refine lv_icmp_lt (tgt := 16) hx hb d_C_isNear_3 (by decide) (fun c1 => ?_) (fun c1 => ?_)
  · skip
    have hw := hw.1 c1
    refine lv_iconst (v := 0) hx hb d_C_isNear_16 (by decide) ?_
    exact W.zret (v := 0) hx hb hr rfl (fun t ht hW => ⟨0, rfl, hw, ht⟩) (fun _ h => by cases h) d_C_isNear_17
  · skip
    have hw := hw.2 c1
    refine lv_iload_n hx hb d_C_isNear_6 rfl (lv_at hl 0 rfl) ?_
    refine lv_bipush (v := 100) hx hb d_C_isNear_7 (by decide) ?_
    refine lv_icmp_gt (tgt := 16) hx hb d_C_isNear_9 (by decide) (fun c2 => ?_) (fun c2 => ?_)
    · skip
      have hw := hw.1 c2
      refine lv_iconst (v := 0) hx hb d_C_isNear_16 (by decide) ?_
      exact W.zret (v := 0) hx hb hr rfl (fun t ht hW => ⟨0, rfl, hw, ht⟩) (fun _ h => by cases h) d_C_isNear_17
    · skip
      have hw := hw.2 c2
      refine lv_iconst (v := 1) hx hb d_C_isNear_12 (by decide) ?_
      refine lv_goto (tgt := 17) hx hb d_C_isNear_13 (by decide) ?_
      exact W.zret (v := 1) hx hb hr rfl (fun t ht hW => ⟨1, rfl, hw, ht⟩) (fun _ h => by cases h) d_C_isNear_17
def w_C_isPart (post : Int32 → Prop) (p0 : Int32) : Prop := (p0 = 0 → (post 1)) ∧ (¬ p0 = 0 → ((¬ p0 = 1 → (post 0)) ∧ (p0 = 1 → (post 1))))
set_option maxHeartbeats 4000000 in
set_option maxRecDepth 100000 in
theorem t_C_isPart (l : Launch) (p0 : Int32) {post : Int32 → Prop} (hw : w_C_isPart post p0) : Met l y_C_isPart (Cond.code y_C_isPart prog_1_method_17_code 1 (some .boolean) :: cw) ({ frames := 0, cells := 0, slots := 0, locals := 0 } : Room) (va_Pc [.int p0] (fun _ => True)) (vp_Si post) 0 0 (fun _ => False) := by
  refine Met.ofW (cc := prog_1_method_17_code) (maxL := 1) (ret := (some .boolean)) (by decide) rfl ?_
  intro p e s m args below meth c s₁ B hml hv
  obtain ⟨rfl, -⟩ := hv
  have hx := B.exec
  have hb := B.bytes
  have hr := B.returns
  have hts : ∀ w ∈ cw, w.before _ s = true := fun w h => atoms_spec (ws := (Cond.code y_C_isPart prog_1_method_17_code 1 (some .boolean) :: cw)) B.pre w (List.mem_cons_of_mem _ h)
  have hown : s.vm.findClass RC = some m.cls := findClass_of_methodNamed B.named
  have hlocks := B.notSynchronized
  have C0 : cxt p s m _ meth c prog_1_method_17_code 1 RC (some .boolean) := ⟨hx, hb, hr, hml, hown, hts, hlocks⟩
  have hl := lv_entry ([.int p0]) (n := 1) (Nat.le_of_ble_eq_true rfl)
  rw [lg_entry_eq]
  generalize (lg_sl ([.int p0]) ++ List.replicate (1 - (lg_sl ([.int p0])).length) Slot.unset).toArray = ls at hl ⊢
  have hl : lv_has ls 1 [(0, .int p0)] := hl
  unfold w_C_isPart at hw
  refine lv_iload_n hx hb d_C_isPart_0 rfl (lv_at hl 0 rfl) ?_
  refine lv_if_eq (tgt := 9) hx hb d_C_isPart_1 (by decide) (fun c1 => ?_) (fun c1 => ?_)
  · skip
    have hw := hw.1 c1
    refine lv_iconst (v := 1) hx hb d_C_isPart_9 (by decide) ?_
    refine lv_goto (tgt := 14) hx hb d_C_isPart_10 (by decide) ?_
    exact W.zret (v := 1) hx hb hr rfl (fun t ht hW => ⟨1, rfl, hw, ht⟩) (fun _ h => by cases h) d_C_isPart_14
  · skip
    have hw := hw.2 c1
    refine lv_iload_n hx hb d_C_isPart_4 rfl (lv_at hl 0 rfl) ?_
    refine lv_iconst (v := 1) hx hb d_C_isPart_5 (by decide) ?_
    refine lv_icmp_ne (tgt := 13) hx hb d_C_isPart_6 (by decide) (fun c2 => ?_) (fun c2 => ?_)
    · skip
      have hw := hw.1 c2
      refine lv_iconst (v := 0) hx hb d_C_isPart_13 (by decide) ?_
      exact W.zret (v := 0) hx hb hr rfl (fun t ht hW => ⟨0, rfl, hw, ht⟩) (fun _ h => by cases h) d_C_isPart_14
    · skip
      have hw := hw.2 c2
      refine lv_iconst (v := 1) hx hb d_C_isPart_9 (by decide) ?_
      refine lv_goto (tgt := 14) hx hb d_C_isPart_10 (by decide) ?_
      exact W.zret (v := 1) hx hb hr rfl (fun t ht hW => ⟨1, rfl, hw, ht⟩) (fun _ h => by cases h) d_C_isPart_14
def w_C_wantFor (post : Int32 → Prop) (p0 : Int32) : Prop := (¬ p0 = 0 → ((p0 ≤ 0 → (post 2)) ∧ (¬ p0 ≤ 0 → (post 1)))) ∧ (p0 = 0 → (post 3))
set_option maxHeartbeats 4000000 in
set_option maxRecDepth 100000 in
theorem t_C_wantFor (l : Launch) (p0 : Int32) {post : Int32 → Prop} (hw : w_C_wantFor post p0) : Met l y_C_wantFor (Cond.code y_C_wantFor prog_1_method_32_code 1 (some .int) :: cw) ({ frames := 0, cells := 0, slots := 0, locals := 0 } : Room) (va_Pc [.int p0] (fun _ => True)) (vp_Si post) 0 0 (fun _ => False) := by
  refine Met.ofW (cc := prog_1_method_32_code) (maxL := 1) (ret := (some .int)) (by decide) rfl ?_
  intro p e s m args below meth c s₁ B hml hv
  obtain ⟨rfl, -⟩ := hv
  have hx := B.exec
  have hb := B.bytes
  have hr := B.returns
  have hts : ∀ w ∈ cw, w.before _ s = true := fun w h => atoms_spec (ws := (Cond.code y_C_wantFor prog_1_method_32_code 1 (some .int) :: cw)) B.pre w (List.mem_cons_of_mem _ h)
  have hown : s.vm.findClass RC = some m.cls := findClass_of_methodNamed B.named
  have hlocks := B.notSynchronized
  have C0 : cxt p s m _ meth c prog_1_method_32_code 1 RC (some .int) := ⟨hx, hb, hr, hml, hown, hts, hlocks⟩
  have hl := lv_entry ([.int p0]) (n := 1) (Nat.le_of_ble_eq_true rfl)
  rw [lg_entry_eq]
  generalize (lg_sl ([.int p0]) ++ List.replicate (1 - (lg_sl ([.int p0])).length) Slot.unset).toArray = ls at hl ⊢
  have hl : lv_has ls 1 [(0, .int p0)] := hl
  unfold w_C_wantFor at hw
  refine lv_iload_n hx hb d_C_wantFor_0 rfl (lv_at hl 0 rfl) ?_
  refine lv_if_ne (tgt := 6) hx hb d_C_wantFor_1 (by decide) (fun c1 => ?_) (fun c1 => ?_)
  · skip
    have hw := hw.1 c1
    refine lv_iload_n hx hb d_C_wantFor_6 rfl (lv_at hl 0 rfl) ?_
    refine lv_if_le (tgt := 14) hx hb d_C_wantFor_7 (by decide) (fun c2 => ?_) (fun c2 => ?_)
    · skip
      have hw := hw.1 c2
      refine lv_iconst (v := 2) hx hb d_C_wantFor_14 (by decide) ?_
      exact W.iret (v := 2) hx hb hr (fun t ht hW => ⟨2, rfl, hw, ht⟩) (fun _ h => by cases h) d_C_wantFor_15
    · skip
      have hw := hw.2 c2
      refine lv_iconst (v := 1) hx hb d_C_wantFor_10 (by decide) ?_
      refine lv_goto (tgt := 15) hx hb d_C_wantFor_11 (by decide) ?_
      exact W.iret (v := 1) hx hb hr (fun t ht hW => ⟨1, rfl, hw, ht⟩) (fun _ h => by cases h) d_C_wantFor_15
  · skip
    have hw := hw.2 c1
    refine lv_iconst (v := 3) hx hb d_C_wantFor_4 (by decide) ?_
    exact W.iret (v := 3) hx hb hr (fun t ht hW => ⟨3, rfl, hw, ht⟩) (fun _ h => by cases h) d_C_wantFor_5
def w_C_isLine (st : CS) (post : Int32 → Prop) (p0 : Int32) : Prop := (p0 < 0 → (post 0)) ∧ (¬ p0 < 0 → (((CS.lc st) ≤ p0 → (post 0)) ∧ (¬ (CS.lc st) ≤ p0 → (post 1))))
set_option maxHeartbeats 4000000 in
set_option maxRecDepth 100000 in
theorem t_C_isLine (l : Launch) (dC : Nat → ClassId) (dI : Nat → Nat → Nat) (h : Nat → Nat) (k : Nat → ClassId) (st : CS) (p0 : Int32) {post : Int32 → Prop} (hw : w_C_isLine st post p0) : Met l y_C_isLine (Cond.code y_C_isLine prog_1_method_18_code 2 (some .boolean) :: cw) ({ frames := 0, cells := 0, slots := 0, locals := 0 } : Room) (va_Pc [.ref (h 0), .int p0] (pRo (dC, dI) (WC h k st) (YC k))) (vp_Si post) 0 0 (fun _ => False) := by
  refine Met.ofW (cc := prog_1_method_18_code) (maxL := 2) (ret := (some .boolean)) (by decide) rfl ?_
  intro p e s m args below meth c s₁ B hml hv
  obtain ⟨rfl, hP, hK, hN⟩ := hv
  have hx := B.exec
  have hb := B.bytes
  have hr := B.returns
  have hts : ∀ w ∈ cw, w.before _ s = true := fun w h => atoms_spec (ws := (Cond.code y_C_isLine prog_1_method_18_code 2 (some .boolean) :: cw)) B.pre w (List.mem_cons_of_mem _ h)
  have hown : s.vm.findClass RC = some m.cls := findClass_of_methodNamed B.named
  have hlocks := B.notSynchronized
  have C0 : cxt p s m _ meth c prog_1_method_18_code 2 RC (some .boolean) := ⟨hx, hb, hr, hml, hown, hts, hlocks⟩
  have hl := lv_entry ([.ref (h 0), .int p0]) (n := 2) (Nat.le_of_ble_eq_true rfl)
  rw [lg_entry_eq]
  generalize (lg_sl ([.ref (h 0), .int p0]) ++ List.replicate (2 - (lg_sl ([.ref (h 0), .int p0])).length) Slot.unset).toArray = ls at hl ⊢
  have hl : lv_has ls 2 [(0, .ref (h 0)), (1, .int p0)] := hl
  unfold w_C_isLine at hw
  refine lv_iload_n hx hb d_C_isLine_0 rfl (lv_at hl 1 rfl) ?_
  refine lv_if_lt (tgt := 16) hx hb d_C_isLine_1 (by decide) (fun c1 => ?_) (fun c1 => ?_)
  · skip
    have hw := hw.1 c1
    refine lv_iconst (v := 0) hx hb d_C_isLine_16 (by decide) ?_
    exact W.zret (v := 0) hx hb hr rfl (fun t ht hW => ⟨0, rfl, hw, ht⟩) (fun _ h => by cases h) d_C_isLine_17
  · skip
    have hw := hw.2 c1
    refine lv_iload_n hx hb d_C_isLine_4 rfl (lv_at hl 1 rfl) ?_
    refine lv_aload_n hx hb d_C_isLine_5 rfl (lv_at hl 0 rfl) ?_
    refine va_get (D := (dC, dI)) (ci := 1) (v := .int (CS.lc st)) (C := RC) (T := TC) (N := 10) hx hb hts i_C hown hK hP 0 rfl rfl 3 (by decide) (hts _ m_109) (fun _ h9 => h9) rfl d_C_isLine_6 ?_
    refine lv_icmp_ge (tgt := 16) hx hb d_C_isLine_9 (by decide) (fun c2 => ?_) (fun c2 => ?_)
    · skip
      have hw := hw.1 c2
      refine lv_iconst (v := 0) hx hb d_C_isLine_16 (by decide) ?_
      exact W.zret (v := 0) hx hb hr rfl (fun t ht hW => ⟨0, rfl, hw, ht⟩) (fun _ h => by cases h) d_C_isLine_17
    · skip
      have hw := hw.2 c2
      refine lv_iconst (v := 1) hx hb d_C_isLine_12 (by decide) ?_
      refine lv_goto (tgt := 17) hx hb d_C_isLine_13 (by decide) ?_
      exact W.zret (v := 1) hx hb hr rfl (fun t ht hW => ⟨1, rfl, hw, ht⟩) (fun _ h => by cases h) d_C_isLine_17
def w_C_stripCount (st : CS) (post : Int32 → Prop) : Prop := post ((2 * (KS.cnt (CS.cu st))) + 1)
set_option maxHeartbeats 4000000 in
set_option maxRecDepth 100000 in
theorem t_C_stripCount (l : Launch) (dC : Nat → ClassId) (dI : Nat → Nat → Nat) (h : Nat → Nat) (k : Nat → ClassId) (st : CS) {post : Int32 → Prop} (hw : w_C_stripCount st post) : Met l y_C_stripCount (Cond.code y_C_stripCount prog_1_method_20_code 1 (some .int) :: cw) ({ frames := 0, cells := 0, slots := 0, locals := 0 } : Room) (va_Pc [.ref (h 0)] (pRo (dC, dI) (WC h k st) (YC k))) (vp_Si post) 0 0 (fun _ => False) := by
  refine Met.ofW (cc := prog_1_method_20_code) (maxL := 1) (ret := (some .int)) (by decide) rfl ?_
  intro p e s m args below meth c s₁ B hml hv
  obtain ⟨rfl, hP, hK, hN⟩ := hv
  have hx := B.exec
  have hb := B.bytes
  have hr := B.returns
  have hts : ∀ w ∈ cw, w.before _ s = true := fun w h => atoms_spec (ws := (Cond.code y_C_stripCount prog_1_method_20_code 1 (some .int) :: cw)) B.pre w (List.mem_cons_of_mem _ h)
  have hown : s.vm.findClass RC = some m.cls := findClass_of_methodNamed B.named
  have hlocks := B.notSynchronized
  have C0 : cxt p s m _ meth c prog_1_method_20_code 1 RC (some .int) := ⟨hx, hb, hr, hml, hown, hts, hlocks⟩
  have hl := lv_entry ([.ref (h 0)]) (n := 1) (Nat.le_of_ble_eq_true rfl)
  rw [lg_entry_eq]
  generalize (lg_sl ([.ref (h 0)]) ++ List.replicate (1 - (lg_sl ([.ref (h 0)])).length) Slot.unset).toArray = ls at hl ⊢
  have hl : lv_has ls 1 [(0, .ref (h 0))] := hl
  unfold w_C_stripCount at hw
  refine lv_iconst (v := 2) hx hb d_C_stripCount_0 (by decide) ?_
  refine lv_aload_n hx hb d_C_stripCount_1 rfl (lv_at hl 0 rfl) ?_
  refine va_get (D := (dC, dI)) (ci := 1) (v := .ref (h 4)) (C := RC) (T := TC) (N := 10) hx hb hts i_C hown hK hP 0 rfl rfl 4 (by decide) (hts _ m_110) (fun _ h9 => h9) rfl d_C_stripCount_2 ?_
  refine va_getN (D := (dC, dI)) (ci := 0) (v := .int (KS.cnt (CS.cu st))) (C := RK) (T := TK) (N := 3) hx hb hts i_K hown hK hP 4 rfl rfl 2 (by decide) (va_Nw.use rfl hN) (fun _ h9 => h9) rfl d_C_stripCount_5 ?_
  refine lv_imul hx hb d_C_stripCount_8 ?_
  refine lv_iconst (v := 1) hx hb d_C_stripCount_9 (by decide) ?_
  refine lv_iadd hx hb d_C_stripCount_10 ?_
  exact W.iret (v := ((2 * (KS.cnt (CS.cu st))) + 1)) hx hb hr (fun t ht hW => ⟨((2 * (KS.cnt (CS.cu st))) + 1), rfl, hw, ht⟩) (fun _ h => by cases h) d_C_stripCount_11
def w_C_isCell (st : CS) (post : Int32 → Prop) (p0 : Int32) : Prop := (p0 < 0 → (post 0)) ∧ (¬ p0 < 0 → (w_C_stripCount st (fun r2 => (vp_in r2 32 ∧ ((((CS.fc st) r2.toNatClampNeg) ≤ p0 → (post 0)) ∧ (¬ ((CS.fc st) r2.toNatClampNeg) ≤ p0 → (post 1))))) ))
set_option maxHeartbeats 4000000 in
set_option maxRecDepth 100000 in
theorem t_C_isCell (l : Launch) (dC : Nat → ClassId) (dI : Nat → Nat → Nat) (h : Nat → Nat) (k : Nat → ClassId) (st : CS) (p0 : Int32) {post : Int32 → Prop} (hw : w_C_isCell st post p0) : Met l y_C_isCell (Cond.code y_C_isCell prog_1_method_19_code 2 (some .boolean) :: cw) ({ frames := 1, cells := 0, slots := 0, locals := 20 } : Room) (va_Pc [.ref (h 0), .int p0] (pRo (dC, dI) (WC h k st) (YC k))) (vp_Si post) 0 0 (fun _ => False) := by
  refine Met.ofW (cc := prog_1_method_19_code) (maxL := 2) (ret := (some .boolean)) (by decide) rfl ?_
  intro p e s m args below meth c s₁ B hml hv
  obtain ⟨rfl, hP, hK, hN⟩ := hv
  have hx := B.exec
  have hb := B.bytes
  have hr := B.returns
  have hts : ∀ w ∈ cw, w.before _ s = true := fun w h => atoms_spec (ws := (Cond.code y_C_isCell prog_1_method_19_code 2 (some .boolean) :: cw)) B.pre w (List.mem_cons_of_mem _ h)
  have hown : s.vm.findClass RC = some m.cls := findClass_of_methodNamed B.named
  have hlocks := B.notSynchronized
  have C0 : cxt p s m _ meth c prog_1_method_19_code 2 RC (some .boolean) := ⟨hx, hb, hr, hml, hown, hts, hlocks⟩
  have hl := lv_entry ([.ref (h 0), .int p0]) (n := 2) (Nat.le_of_ble_eq_true rfl)
  rw [lg_entry_eq]
  generalize (lg_sl ([.ref (h 0), .int p0]) ++ List.replicate (2 - (lg_sl ([.ref (h 0), .int p0])).length) Slot.unset).toArray = ls at hl ⊢
  have hl : lv_has ls 2 [(0, .ref (h 0)), (1, .int p0)] := hl
  unfold w_C_isCell at hw
  refine lv_iload_n hx hb d_C_isCell_0 rfl (lv_at hl 1 rfl) ?_
  refine lv_if_lt (tgt := 21) hx hb d_C_isCell_1 (by decide) (fun c1 => ?_) (fun c1 => ?_)
  · skip
    have hw := hw.1 c1
    refine lv_iconst (v := 0) hx hb d_C_isCell_21 (by decide) ?_
    exact W.zret (v := 0) hx hb hr rfl (fun t ht hW => ⟨0, rfl, hw, ht⟩) (fun _ h => by cases h) d_C_isCell_22
  · skip
    have hw := hw.2 c1
    refine lv_iload_n hx hb d_C_isCell_4 rfl (lv_at hl 1 rfl) ?_
    refine lv_aload_n hx hb d_C_isCell_5 rfl (lv_at hl 0 rfl) ?_
    refine va_get (D := (dC, dI)) (ci := 1) (v := .ref (h 13)) (C := RC) (T := TC) (N := 10) hx hb hts i_C hown hK hP 0 rfl rfl 9 (by decide) (hts _ m_115) (fun _ h9 => h9) rfl d_C_isCell_6 ?_
    refine lv_aload_n hx hb d_C_isCell_9 rfl (lv_at hl 0 rfl) ?_
    refine vp_callSi (va_Run.run (va_runV (As := []) (rest := [.ref (h 13), .int p0]) ⟨hx, hb, hml, hown, hts⟩ (t_C_stripCount l dC dI h k st  hw) (cwV 0 hts (gV m_65 m_67 s_3 m_1 (cw_call m_68)) rfl rfl rfl (by decide +kernel) ⟨Nat.le_of_ble_eq_true rfl, Nat.le_of_ble_eq_true rfl⟩) ⟨pRo_bl, va_recv hK hP (ci := 1) (q0 := 0) rfl rfl, fun U hU hW => ⟨rfl, pRo_at hP hK hN hU hW⟩⟩ rfl rfl hl.1 rfl (lv_room (Nat.le_of_ble_eq_true rfl)) d_C_isCell_10 ⟨Nat.le_of_ble_eq_true rfl, Nat.le_of_ble_eq_true rfl⟩)) (fun r2 hw => ?_)
    obtain ⟨h3, hw⟩ := hw
    refine va_iald hx hb hK hP 13 10 rfl rfl h3 d_C_isCell_13 ?_
    refine lv_icmp_ge (tgt := 21) hx hb d_C_isCell_14 (by decide) (fun c4 => ?_) (fun c4 => ?_)
    · skip
      have hw := hw.1 c4
      refine lv_iconst (v := 0) hx hb d_C_isCell_21 (by decide) ?_
      exact W.zret (v := 0) hx hb hr rfl (fun t ht hW => ⟨0, rfl, hw, ht⟩) (fun _ h => by cases h) d_C_isCell_22
    · skip
      have hw := hw.2 c4
      refine lv_iconst (v := 1) hx hb d_C_isCell_17 (by decide) ?_
      refine lv_goto (tgt := 22) hx hb d_C_isCell_18 (by decide) ?_
      exact W.zret (v := 1) hx hb hr rfl (fun t ht hW => ⟨1, rfl, hw, ht⟩) (fun _ h => by cases h) d_C_isCell_22
def w_C_cellsOf (st : CS) (post : Int32 → Prop) (p0 : Int32) : Prop := vp_in (p0 + 1) 32 ∧ (vp_in p0 32 ∧ (post (((CS.fc st) (p0 + 1).toNatClampNeg) - ((CS.fc st) p0.toNatClampNeg))))
set_option maxHeartbeats 4000000 in
set_option maxRecDepth 100000 in
theorem t_C_cellsOf (l : Launch) (dC : Nat → ClassId) (dI : Nat → Nat → Nat) (h : Nat → Nat) (k : Nat → ClassId) (st : CS) (p0 : Int32) {post : Int32 → Prop} (hw : w_C_cellsOf st post p0) : Met l y_C_cellsOf (Cond.code y_C_cellsOf prog_1_method_21_code 2 (some .int) :: cw) ({ frames := 0, cells := 0, slots := 0, locals := 0 } : Room) (va_Pc [.ref (h 0), .int p0] (pRo (dC, dI) (WC h k st) (YC k))) (vp_Si post) 0 0 (fun _ => False) := by
  refine Met.ofW (cc := prog_1_method_21_code) (maxL := 2) (ret := (some .int)) (by decide) rfl ?_
  intro p e s m args below meth c s₁ B hml hv
  obtain ⟨rfl, hP, hK, hN⟩ := hv
  have hx := B.exec
  have hb := B.bytes
  have hr := B.returns
  have hts : ∀ w ∈ cw, w.before _ s = true := fun w h => atoms_spec (ws := (Cond.code y_C_cellsOf prog_1_method_21_code 2 (some .int) :: cw)) B.pre w (List.mem_cons_of_mem _ h)
  have hown : s.vm.findClass RC = some m.cls := findClass_of_methodNamed B.named
  have hlocks := B.notSynchronized
  have C0 : cxt p s m _ meth c prog_1_method_21_code 2 RC (some .int) := ⟨hx, hb, hr, hml, hown, hts, hlocks⟩
  have hl := lv_entry ([.ref (h 0), .int p0]) (n := 2) (Nat.le_of_ble_eq_true rfl)
  rw [lg_entry_eq]
  generalize (lg_sl ([.ref (h 0), .int p0]) ++ List.replicate (2 - (lg_sl ([.ref (h 0), .int p0])).length) Slot.unset).toArray = ls at hl ⊢
  have hl : lv_has ls 2 [(0, .ref (h 0)), (1, .int p0)] := hl
  unfold w_C_cellsOf at hw
  refine lv_aload_n hx hb d_C_cellsOf_0 rfl (lv_at hl 0 rfl) ?_
  refine va_get (D := (dC, dI)) (ci := 1) (v := .ref (h 13)) (C := RC) (T := TC) (N := 10) hx hb hts i_C hown hK hP 0 rfl rfl 9 (by decide) (hts _ m_115) (fun _ h9 => h9) rfl d_C_cellsOf_1 ?_
  refine lv_iload_n hx hb d_C_cellsOf_4 rfl (lv_at hl 1 rfl) ?_
  refine lv_iconst (v := 1) hx hb d_C_cellsOf_5 (by decide) ?_
  refine lv_iadd hx hb d_C_cellsOf_6 ?_
  obtain ⟨h1, hw⟩ := hw
  refine va_iald hx hb hK hP 13 10 rfl rfl h1 d_C_cellsOf_7 ?_
  refine lv_aload_n hx hb d_C_cellsOf_8 rfl (lv_at hl 0 rfl) ?_
  refine va_get (D := (dC, dI)) (ci := 1) (v := .ref (h 13)) (C := RC) (T := TC) (N := 10) hx hb hts i_C hown hK hP 0 rfl rfl 9 (by decide) (hts _ m_115) (fun _ h9 => h9) rfl d_C_cellsOf_9 ?_
  refine lv_iload_n hx hb d_C_cellsOf_12 rfl (lv_at hl 1 rfl) ?_
  obtain ⟨h2, hw⟩ := hw
  refine va_iald hx hb hK hP 13 10 rfl rfl h2 d_C_cellsOf_13 ?_
  refine lv_isub hx hb d_C_cellsOf_14 ?_
  exact W.iret (v := (((CS.fc st) (p0 + 1).toNatClampNeg) - ((CS.fc st) p0.toNatClampNeg))) hx hb hr (fun t ht hW => ⟨(((CS.fc st) (p0 + 1).toNatClampNeg) - ((CS.fc st) p0.toNatClampNeg)), rfl, hw, ht⟩) (fun _ h => by cases h) d_C_cellsOf_15
def w_C_stripOf_9 (st : CS) (post : Int32 → Prop) : Nat → Int32 → Int32 → Int32 → Prop
  | 0, _, _, _ => False
  | n + 1, v1, v2, v3 => (v2 ≤ v3 → (post v2)) ∧ (¬ v2 ≤ v3 → (vp_in (v3 + 1) 32 ∧ ((((CS.fc st) (v3 + 1).toNatClampNeg) ≤ v1 → (w_C_stripOf_9 st post n v1 v2 (v3 + 1))) ∧ (¬ ((CS.fc st) (v3 + 1).toNatClampNeg) ≤ v1 → (post v3)))))
set_option maxHeartbeats 4000000 in
set_option maxRecDepth 100000 in
theorem k_C_stripOf_9 {p : Program} {l : Launch} {e : Env} {s : State} {m : MethodId} {args : Array Value} {below : List Frame} {meth : Method} {c : Code} {dC : Nat → ClassId} {dI : Nat → Nat → Nat} {h : Nat → Nat} {k : Nat → ClassId} {st : CS} {post : Int32 → Prop} (C0 : cxt p s m args meth c prog_1_method_22_code 4 RC (some .int)) (hK : va_K (dC, dI) vwCl (YC k) s) (hN : va_Nw nestW s) (hP : va_P (dC, dI) vwCl (WC h k st) s.heap) : ∀ (n : Nat), ∀ (v1 : Int32) (v2 : Int32) (v3 : Int32), ∀ ls, lv_has ls 4 [(0, .ref (h 0)), (1, .int v1), (2, .int v2), (3, .int v3)] → w_C_stripOf_9 st post n v1 v2 v3 → W p l e ({ frames := 1, cells := 0, slots := 0, locals := 20 } : Room) s m args below meth c s.heap [] 0 0 (MQ below (vp_Si post) args s 0 0 (fun _ => False)) (F0 m 9 ls []) := by
  obtain ⟨hx, hb, hr, hml, hown, hts, hlocks⟩ := id C0
  intro n
  induction n with
  | zero =>
    intro v1 v2 v3 ls hl hw
    exact False.elim hw
  | succ n ih =>
    intro v1 v2 v3 ls hl hw
    rw [w_C_stripOf_9] at hw
    refine lv_iload_n hx hb d_C_stripOf_9 rfl (lv_at hl 3 rfl) ?_
    refine lv_iload_n hx hb d_C_stripOf_10 rfl (lv_at hl 2 rfl) ?_
    refine lv_icmp_ge (tgt := 34) hx hb d_C_stripOf_11 (by decide) (fun c4 => ?_) (fun c4 => ?_)
    · skip
      have hw := hw.1 c4
      refine lv_iload_n hx hb d_C_stripOf_34 rfl (lv_at hl 2 rfl) ?_
      exact W.iret (v := v2) hx hb hr (fun t ht hW => ⟨v2, rfl, hw, ht⟩) (fun _ h => by cases h) d_C_stripOf_35
    · skip
      have hw := hw.2 c4
      refine lv_iload_n hx hb d_C_stripOf_14 rfl (lv_at hl 1 rfl) ?_
      refine lv_aload_n hx hb d_C_stripOf_15 rfl (lv_at hl 0 rfl) ?_
      refine va_get (D := (dC, dI)) (ci := 1) (v := .ref (h 13)) (C := RC) (T := TC) (N := 10) hx hb hts i_C hown hK hP 0 rfl rfl 9 (by decide) (hts _ m_115) (fun _ h9 => h9) rfl d_C_stripOf_16 ?_
      refine lv_iload_n hx hb d_C_stripOf_19 rfl (lv_at hl 3 rfl) ?_
      refine lv_iconst (v := 1) hx hb d_C_stripOf_20 (by decide) ?_
      refine lv_iadd hx hb d_C_stripOf_21 ?_
      obtain ⟨h5, hw⟩ := hw
      refine va_iald hx hb hK hP 13 10 rfl rfl h5 d_C_stripOf_22 ?_
      refine lv_icmp_ge (tgt := 28) hx hb d_C_stripOf_23 (by decide) (fun c6 => ?_) (fun c6 => ?_)
      · skip
        have hw := hw.1 c6
        refine lv_iinc (v := (v3 + 1)) (lv' := [(3, .int (v3 + 1)), (0, .ref (h 0)), (1, .int v1), (2, .int v2)]) hx hb d_C_stripOf_28 hl (k := 3) rfl rfl (by decide) rfl (fun ls hl => ?_)
        refine lv_goto (tgt := 9) hx hb d_C_stripOf_31 (by decide) ?_
        exact ih v1 v2 (v3 + 1) ls (lv_sub hl [1, 2, 3, 0] rfl) hw
      · skip
        have hw := hw.2 c6
        refine lv_iload_n hx hb d_C_stripOf_26 rfl (lv_at hl 3 rfl) ?_
        exact W.iret (v := v3) hx hb hr (fun t ht hW => ⟨v3, rfl, hw, ht⟩) (fun _ h => by cases h) d_C_stripOf_27
def w_C_stripOf (st : CS) (post : Int32 → Prop) (p0 : Int32) : Prop := w_C_stripCount st (fun r1 => (∀ y2 : Int32, y2 = (r1 - 1) → (∃ z, w_C_stripOf_9 st post z p0 y2 0))) 
set_option maxHeartbeats 4000000 in
set_option maxRecDepth 100000 in
theorem t_C_stripOf (l : Launch) (dC : Nat → ClassId) (dI : Nat → Nat → Nat) (h : Nat → Nat) (k : Nat → ClassId) (st : CS) (p0 : Int32) {post : Int32 → Prop} (hw : w_C_stripOf st post p0) : Met l y_C_stripOf (Cond.code y_C_stripOf prog_1_method_22_code 4 (some .int) :: cw) ({ frames := 1, cells := 0, slots := 0, locals := 20 } : Room) (va_Pc [.ref (h 0), .int p0] (pRo (dC, dI) (WC h k st) (YC k))) (vp_Si post) 0 0 (fun _ => False) := by
  refine Met.ofW (cc := prog_1_method_22_code) (maxL := 4) (ret := (some .int)) (by decide) rfl ?_
  intro p e s m args below meth c s₁ B hml hv
  obtain ⟨rfl, hP, hK, hN⟩ := hv
  have hx := B.exec
  have hb := B.bytes
  have hr := B.returns
  have hts : ∀ w ∈ cw, w.before _ s = true := fun w h => atoms_spec (ws := (Cond.code y_C_stripOf prog_1_method_22_code 4 (some .int) :: cw)) B.pre w (List.mem_cons_of_mem _ h)
  have hown : s.vm.findClass RC = some m.cls := findClass_of_methodNamed B.named
  have hlocks := B.notSynchronized
  have C0 : cxt p s m _ meth c prog_1_method_22_code 4 RC (some .int) := ⟨hx, hb, hr, hml, hown, hts, hlocks⟩
  have hl := lv_entry ([.ref (h 0), .int p0]) (n := 4) (Nat.le_of_ble_eq_true rfl)
  rw [lg_entry_eq]
  generalize (lg_sl ([.ref (h 0), .int p0]) ++ List.replicate (4 - (lg_sl ([.ref (h 0), .int p0])).length) Slot.unset).toArray = ls at hl ⊢
  have hl : lv_has ls 4 [(0, .ref (h 0)), (1, .int p0)] := hl
  unfold w_C_stripOf at hw
  refine lv_aload_n hx hb d_C_stripOf_0 rfl (lv_at hl 0 rfl) ?_
  refine vp_callSi (va_Run.run (va_runV (As := []) (rest := []) ⟨hx, hb, hml, hown, hts⟩ (t_C_stripCount l dC dI h k st  hw) (cwV 0 hts (gV m_65 m_67 s_3 m_1 (cw_call m_68)) rfl rfl rfl (by decide +kernel) ⟨Nat.le_of_ble_eq_true rfl, Nat.le_of_ble_eq_true rfl⟩) ⟨pRo_bl, va_recv hK hP (ci := 1) (q0 := 0) rfl rfl, fun U hU hW => ⟨rfl, pRo_at hP hK hN hU hW⟩⟩ rfl rfl hl.1 rfl (lv_room (Nat.le_of_ble_eq_true rfl)) d_C_stripOf_1 ⟨Nat.le_of_ble_eq_true rfl, Nat.le_of_ble_eq_true rfl⟩)) (fun r1 hw => ?_)
  refine lv_iconst (v := 1) hx hb d_C_stripOf_4 (by decide) ?_
  refine lv_isub hx hb d_C_stripOf_5 ?_
  refine lv_topi (fun y2 ey2 => ?_)
  have hw := hw y2 ey2
  refine lv_istore_n (lv' := [(2, .int y2), (0, .ref (h 0)), (1, .int p0)]) hx hb d_C_stripOf_6 rfl hl (by decide) rfl (fun ls hl => ?_)
  refine lv_iconst (v := 0) hx hb d_C_stripOf_7 (by decide) ?_
  refine lv_istore_n (lv' := [(3, .int 0), (2, .int y2), (0, .ref (h 0)), (1, .int p0)]) hx hb d_C_stripOf_8 rfl hl (by decide) rfl (fun ls hl => ?_)
  obtain ⟨n3, hw⟩ := hw
  exact k_C_stripOf_9 C0 hK hN hP n3 p0 y2 0 ls (lv_sub hl [2, 3, 1, 0] rfl) hw
def w_C_heightAbove (st : CS) (post : Int64 → Prop) (p0 : Int32) (p1 : Int64) (p2 : Int64) : Prop := vp_in p0 6 ∧ (∀ y2 : Int64, y2 = (((((CS.a st) p0.toNatClampNeg).toInt64) * p1) + ((((CS.c st) p0.toNatClampNeg).toInt64) * p2)) → ((((CS.b st) p0.toNatClampNeg) ≤ 0 → (post y2)) ∧ (¬ ((CS.b st) p0.toNatClampNeg) ≤ 0 → (post (-y2)))))
set_option maxHeartbeats 4000000 in
set_option maxRecDepth 100000 in
theorem t_C_heightAbove (l : Launch) (dC : Nat → ClassId) (dI : Nat → Nat → Nat) (h : Nat → Nat) (k : Nat → ClassId) (st : CS) (p0 : Int32) (p1 : Int64) (p2 : Int64) {post : Int64 → Prop} (hw : w_C_heightAbove st post p0 p1 p2) : Met l y_C_heightAbove (Cond.code y_C_heightAbove prog_1_method_28_code 8 (some .long) :: cw) ({ frames := 0, cells := 0, slots := 0, locals := 0 } : Room) (va_Pc [.ref (h 0), .int p0, .long p1, .long p2] (pRo (dC, dI) (WC h k st) (YC k))) (vp_Sl post) 0 0 (fun _ => False) := by
  refine Met.ofW (cc := prog_1_method_28_code) (maxL := 8) (ret := (some .long)) (by decide) rfl ?_
  intro p e s m args below meth c s₁ B hml hv
  obtain ⟨rfl, hP, hK, hN⟩ := hv
  have hx := B.exec
  have hb := B.bytes
  have hr := B.returns
  have hts : ∀ w ∈ cw, w.before _ s = true := fun w h => atoms_spec (ws := (Cond.code y_C_heightAbove prog_1_method_28_code 8 (some .long) :: cw)) B.pre w (List.mem_cons_of_mem _ h)
  have hown : s.vm.findClass RC = some m.cls := findClass_of_methodNamed B.named
  have hlocks := B.notSynchronized
  have C0 : cxt p s m _ meth c prog_1_method_28_code 8 RC (some .long) := ⟨hx, hb, hr, hml, hown, hts, hlocks⟩
  have hl := lv_entry ([.ref (h 0), .int p0, .long p1, .long p2]) (n := 8) (Nat.le_of_ble_eq_true rfl)
  rw [lg_entry_eq]
  generalize (lg_sl ([.ref (h 0), .int p0, .long p1, .long p2]) ++ List.replicate (8 - (lg_sl ([.ref (h 0), .int p0, .long p1, .long p2])).length) Slot.unset).toArray = ls at hl ⊢
  have hl : lv_has ls 8 [(0, .ref (h 0)), (1, .int p0), (2, .long p1), (4, .long p2)] := hl
  unfold w_C_heightAbove at hw
  refine lv_aload_n hx hb d_C_heightAbove_0 rfl (lv_at hl 0 rfl) ?_
  refine va_get (D := (dC, dI)) (ci := 1) (v := .ref (h 1)) (C := RC) (T := TC) (N := 10) hx hb hts i_C hown hK hP 0 rfl rfl 0 (by decide) (hts _ m_106) (fun _ h9 => h9) rfl d_C_heightAbove_1 ?_
  refine lv_iload_n hx hb d_C_heightAbove_4 rfl (lv_at hl 1 rfl) ?_
  obtain ⟨h1, hw⟩ := hw
  refine va_iald hx hb hK hP 1 0 rfl rfl h1 d_C_heightAbove_5 ?_
  refine lv_i2l (v := ((CS.a st) p0.toNatClampNeg).toInt64) hx hb d_C_heightAbove_6 rfl ?_
  refine lv_lload_n hx hb d_C_heightAbove_7 rfl (lv_at hl 2 rfl) ?_
  refine lv_lmul hx hb d_C_heightAbove_8 ?_
  refine lv_aload_n hx hb d_C_heightAbove_9 rfl (lv_at hl 0 rfl) ?_
  refine va_get (D := (dC, dI)) (ci := 1) (v := .ref (h 3)) (C := RC) (T := TC) (N := 10) hx hb hts i_C hown hK hP 0 rfl rfl 2 (by decide) (hts _ m_108) (fun _ h9 => h9) rfl d_C_heightAbove_10 ?_
  refine lv_iload_n hx hb d_C_heightAbove_13 rfl (lv_at hl 1 rfl) ?_
  refine va_iald hx hb hK hP 3 2 rfl rfl h1 d_C_heightAbove_14 ?_
  refine lv_i2l (v := ((CS.c st) p0.toNatClampNeg).toInt64) hx hb d_C_heightAbove_15 rfl ?_
  refine lv_lload hx hb d_C_heightAbove_16 (lv_at hl 3 rfl) ?_
  refine lv_lmul hx hb d_C_heightAbove_18 ?_
  refine lv_ladd hx hb d_C_heightAbove_19 ?_
  refine lv_topl (fun y2 ey2 => ?_)
  have hw := hw y2 ey2
  refine lv_lstore (lv' := [(6, .long y2), (0, .ref (h 0)), (1, .int p0), (2, .long p1), (4, .long p2)]) hx hb d_C_heightAbove_20 hl (by decide) rfl (fun ls hl => ?_)
  refine lv_aload_n hx hb d_C_heightAbove_22 rfl (lv_at hl 1 rfl) ?_
  refine va_get (D := (dC, dI)) (ci := 1) (v := .ref (h 2)) (C := RC) (T := TC) (N := 10) hx hb hts i_C hown hK hP 0 rfl rfl 1 (by decide) (hts _ m_107) (fun _ h9 => h9) rfl d_C_heightAbove_23 ?_
  refine lv_iload_n hx hb d_C_heightAbove_26 rfl (lv_at hl 2 rfl) ?_
  refine va_iald hx hb hK hP 2 1 rfl rfl h1 d_C_heightAbove_27 ?_
  refine lv_if_le (tgt := 37) hx hb d_C_heightAbove_28 (by decide) (fun c3 => ?_) (fun c3 => ?_)
  · skip
    have hw := hw.1 c3
    refine lv_lload hx hb d_C_heightAbove_37 (lv_at hl 0 rfl) ?_
    exact W.lret (v := y2) hx hb hr (fun t ht hW => ⟨y2, rfl, hw, ht⟩) (fun _ h => by cases h) d_C_heightAbove_39
  · skip
    have hw := hw.2 c3
    refine lv_lload hx hb d_C_heightAbove_31 (lv_at hl 0 rfl) ?_
    refine lv_lneg hx hb d_C_heightAbove_33 ?_
    refine lv_goto (tgt := 39) hx hb d_C_heightAbove_34 (by decide) ?_
    exact W.lret (v := (-y2)) hx hb hr (fun t ht hW => ⟨(-y2), rfl, hw, ht⟩) (fun _ h => by cases h) d_C_heightAbove_39
def w_C_heightBelow (st : CS) (post : Int64 → Prop) (p0 : Int32) (p1 : Int64) : Prop := vp_in p0 6 ∧ (post (((if 0 ≤ ((CS.b st) p0.toNatClampNeg) then ((CS.b st) p0.toNatClampNeg) else 0 - ((CS.b st) p0.toNatClampNeg)).toInt64) * p1))
set_option maxHeartbeats 4000000 in
set_option maxRecDepth 100000 in
theorem t_C_heightBelow (l : Launch) (dC : Nat → ClassId) (dI : Nat → Nat → Nat) (h : Nat → Nat) (k : Nat → ClassId) (st : CS) (p0 : Int32) (p1 : Int64) {post : Int64 → Prop} (hw : w_C_heightBelow st post p0 p1) : Met l y_C_heightBelow (Cond.code y_C_heightBelow prog_1_method_29_code 4 (some .long) :: cw) ({ frames := 1, cells := 0, slots := 0, locals := 21 } : Room) (va_Pc [.ref (h 0), .int p0, .long p1] (pRo (dC, dI) (WC h k st) (YC k))) (vp_Sl post) 0 0 (fun _ => False) := by
  refine Met.ofW (cc := prog_1_method_29_code) (maxL := 4) (ret := (some .long)) (by decide) rfl ?_
  intro p e s m args below meth c s₁ B hml hv
  obtain ⟨rfl, hP, hK, hN⟩ := hv
  have hx := B.exec
  have hb := B.bytes
  have hr := B.returns
  have hts : ∀ w ∈ cw, w.before _ s = true := fun w h => atoms_spec (ws := (Cond.code y_C_heightBelow prog_1_method_29_code 4 (some .long) :: cw)) B.pre w (List.mem_cons_of_mem _ h)
  have hown : s.vm.findClass RC = some m.cls := findClass_of_methodNamed B.named
  have hlocks := B.notSynchronized
  have C0 : cxt p s m _ meth c prog_1_method_29_code 4 RC (some .long) := ⟨hx, hb, hr, hml, hown, hts, hlocks⟩
  have hl := lv_entry ([.ref (h 0), .int p0, .long p1]) (n := 4) (Nat.le_of_ble_eq_true rfl)
  rw [lg_entry_eq]
  generalize (lg_sl ([.ref (h 0), .int p0, .long p1]) ++ List.replicate (4 - (lg_sl ([.ref (h 0), .int p0, .long p1])).length) Slot.unset).toArray = ls at hl ⊢
  have hl : lv_has ls 4 [(0, .ref (h 0)), (1, .int p0), (2, .long p1)] := hl
  unfold w_C_heightBelow at hw
  refine lv_aload_n hx hb d_C_heightBelow_0 rfl (lv_at hl 0 rfl) ?_
  refine va_get (D := (dC, dI)) (ci := 1) (v := .ref (h 2)) (C := RC) (T := TC) (N := 10) hx hb hts i_C hown hK hP 0 rfl rfl 1 (by decide) (hts _ m_107) (fun _ h9 => h9) rfl d_C_heightBelow_1 ?_
  refine lv_iload_n hx hb d_C_heightBelow_4 rfl (lv_at hl 1 rfl) ?_
  obtain ⟨h1, hw⟩ := hw
  refine va_iald hx hb hK hP 2 1 rfl rfl h1 d_C_heightBelow_5 ?_
  refine va_mabs hx hb (hml.trans hl.1.symm) hown (hts _ m_102) (hts _ m_103) (hts _ m_4) (hts _ m_104) (Nat.le_of_ble_eq_true rfl) (Nat.le_of_ble_eq_true rfl) (Nat.le_of_ble_eq_true rfl) (Nat.le_of_ble_eq_true rfl) d_C_heightBelow_6 ?_
  refine lv_i2l (v := (if 0 ≤ ((CS.b st) p0.toNatClampNeg) then ((CS.b st) p0.toNatClampNeg) else 0 - ((CS.b st) p0.toNatClampNeg)).toInt64) hx hb d_C_heightBelow_9 rfl ?_
  refine lv_lload_n hx hb d_C_heightBelow_10 rfl (lv_at hl 2 rfl) ?_
  refine lv_lmul hx hb d_C_heightBelow_11 ?_
  exact W.lret (v := (((if 0 ≤ ((CS.b st) p0.toNatClampNeg) then ((CS.b st) p0.toNatClampNeg) else 0 - ((CS.b st) p0.toNatClampNeg)).toInt64) * p1)) hx hb hr (fun t ht hW => ⟨(((if 0 ≤ ((CS.b st) p0.toNatClampNeg) then ((CS.b st) p0.toNatClampNeg) else 0 - ((CS.b st) p0.toNatClampNeg)).toInt64) * p1), rfl, hw, ht⟩) (fun _ h => by cases h) d_C_heightBelow_12
def w_C_signIn (st : CS) (post : Int32 → Prop) (p0 : Int32) (p1 : Int32) (p2 : Int32) : Prop := vp_in p2 6 ∧ ((¬ ((CS.b st) p2.toNatClampNeg) = 0 → (vp_in p0 31 ∧ (w_JI_compare (fun r4 => ((((CS.b st) p2.toNatClampNeg) ≤ 0 → (post (-r4))) ∧ (¬ ((CS.b st) p2.toNatClampNeg) ≤ 0 → (post r4)))) p1 ((CS.pl st) p0.toNatClampNeg p2.toNatClampNeg)))) ∧ (((CS.b st) p2.toNatClampNeg) = 0 → (vp_in p0 31 ∧ (w_JL_compare (fun r7 => (post r7)) (((((CS.a st) p2.toNatClampNeg).toInt64) * ((CS.sa st) p0.toNatClampNeg)) + ((((CS.c st) p2.toNatClampNeg).toInt64) * ((CS.sb st) p0.toNatClampNeg))) (0 : Int64)))))
set_option maxHeartbeats 4000000 in
set_option maxRecDepth 100000 in
theorem t_C_signIn (l : Launch) (dC : Nat → ClassId) (dI : Nat → Nat → Nat) (h : Nat → Nat) (k : Nat → ClassId) (st : CS) (p0 : Int32) (p1 : Int32) (p2 : Int32) {post : Int32 → Prop} (hw : w_C_signIn st post p0 p1 p2) : Met l y_C_signIn (Cond.code y_C_signIn prog_1_method_30_code 5 (some .int) :: cw) ({ frames := 1, cells := 0, slots := 0, locals := 23 } : Room) (va_Pc [.ref (h 0), .int p0, .int p1, .int p2] (pRo (dC, dI) (WC h k st) (YC k))) (vp_Si post) 0 0 (fun _ => False) := by
  refine Met.ofW (cc := prog_1_method_30_code) (maxL := 5) (ret := (some .int)) (by decide) rfl ?_
  intro p e s m args below meth c s₁ B hml hv
  obtain ⟨rfl, hP, hK, hN⟩ := hv
  have hx := B.exec
  have hb := B.bytes
  have hr := B.returns
  have hts : ∀ w ∈ cw, w.before _ s = true := fun w h => atoms_spec (ws := (Cond.code y_C_signIn prog_1_method_30_code 5 (some .int) :: cw)) B.pre w (List.mem_cons_of_mem _ h)
  have hown : s.vm.findClass RC = some m.cls := findClass_of_methodNamed B.named
  have hlocks := B.notSynchronized
  have C0 : cxt p s m _ meth c prog_1_method_30_code 5 RC (some .int) := ⟨hx, hb, hr, hml, hown, hts, hlocks⟩
  have hl := lv_entry ([.ref (h 0), .int p0, .int p1, .int p2]) (n := 5) (Nat.le_of_ble_eq_true rfl)
  rw [lg_entry_eq]
  generalize (lg_sl ([.ref (h 0), .int p0, .int p1, .int p2]) ++ List.replicate (5 - (lg_sl ([.ref (h 0), .int p0, .int p1, .int p2])).length) Slot.unset).toArray = ls at hl ⊢
  have hl : lv_has ls 5 [(0, .ref (h 0)), (1, .int p0), (2, .int p1), (3, .int p2)] := hl
  unfold w_C_signIn at hw
  refine lv_aload_n hx hb d_C_signIn_0 rfl (lv_at hl 0 rfl) ?_
  refine va_get (D := (dC, dI)) (ci := 1) (v := .ref (h 2)) (C := RC) (T := TC) (N := 10) hx hb hts i_C hown hK hP 0 rfl rfl 1 (by decide) (hts _ m_107) (fun _ h9 => h9) rfl d_C_signIn_1 ?_
  refine lv_iload_n hx hb d_C_signIn_4 rfl (lv_at hl 3 rfl) ?_
  obtain ⟨h1, hw⟩ := hw
  refine va_iald hx hb hK hP 2 1 rfl rfl h1 d_C_signIn_5 ?_
  refine lv_if_ne (tgt := 43) hx hb d_C_signIn_6 (by decide) (fun c2 => ?_) (fun c2 => ?_)
  · skip
    have hw := hw.1 c2
    refine lv_iload_n hx hb d_C_signIn_43 rfl (lv_at hl 2 rfl) ?_
    refine lv_aload_n hx hb d_C_signIn_44 rfl (lv_at hl 0 rfl) ?_
    refine va_get (D := (dC, dI)) (ci := 1) (v := .ref (h 12)) (C := RC) (T := TC) (N := 10) hx hb hts i_C hown hK hP 0 rfl rfl 8 (by decide) (hts _ m_114) (fun _ h9 => h9) rfl d_C_signIn_45 ?_
    refine lv_iload_n hx hb d_C_signIn_48 rfl (lv_at hl 1 rfl) ?_
    obtain ⟨h3, hw⟩ := hw
    refine va_aldC (r := fun i => h (i + 14)) hx hb hK hP 12 9 rfl rfl h3 d_C_signIn_49 ?_
    refine W.eq (g2 := F0 m 50 ls (.ref (h (p0.toNatClampNeg + 14)) :: .int p1 :: [])) rfl ?_
    refine lv_iload_n hx hb d_C_signIn_50 rfl (lv_at hl 3 rfl) ?_
    refine va_iald hx hb hK hP (p0.toNatClampNeg + 14) 11 (wc_row (clamp_lt h3)) rfl h1 d_C_signIn_51 ?_
    refine vp_callSi (va_Run.run (va_runS (As := [.int p1, .int ((CS.pl st) p0.toNatClampNeg p2.toNatClampNeg)]) (rest := []) ⟨hx, hb, hml, hown, hts⟩ (t_JI_compare l p1 ((CS.pl st) p0.toNatClampNeg p2.toNatClampNeg) hw) (va_cwS 2 hts (gS m_162 m_163 m_12 (cw_call m_164)) rfl rfl rfl (by decide +kernel) ⟨Nat.le_of_ble_eq_true rfl, Nat.le_of_ble_eq_true rfl⟩) ⟨pSt_bl, fun U hU hW => ⟨rfl, trivial⟩⟩ rfl rfl hl.1 rfl (lv_room (Nat.le_of_ble_eq_true rfl)) d_C_signIn_52 ⟨Nat.le_of_ble_eq_true rfl, Nat.le_of_ble_eq_true rfl⟩)) (fun r4 hw => ?_)
    refine lv_istore (lv' := [(4, .int r4), (0, .ref (h 0)), (1, .int p0), (2, .int p1), (3, .int p2)]) hx hb d_C_signIn_55 hl (by decide) rfl (fun ls hl => ?_)
    refine lv_aload_n hx hb d_C_signIn_57 rfl (lv_at hl 1 rfl) ?_
    refine va_get (D := (dC, dI)) (ci := 1) (v := .ref (h 2)) (C := RC) (T := TC) (N := 10) hx hb hts i_C hown hK hP 0 rfl rfl 1 (by decide) (hts _ m_107) (fun _ h9 => h9) rfl d_C_signIn_58 ?_
    refine lv_iload_n hx hb d_C_signIn_61 rfl (lv_at hl 4 rfl) ?_
    refine va_iald hx hb hK hP 2 1 rfl rfl h1 d_C_signIn_62 ?_
    refine lv_if_le (tgt := 71) hx hb d_C_signIn_63 (by decide) (fun c5 => ?_) (fun c5 => ?_)
    · skip
      have hw := hw.1 c5
      refine lv_iload hx hb d_C_signIn_71 (lv_at hl 0 rfl) ?_
      refine lv_ineg hx hb d_C_signIn_73 ?_
      exact W.iret (v := (-r4)) hx hb hr (fun t ht hW => ⟨(-r4), rfl, hw, ht⟩) (fun _ h => by cases h) d_C_signIn_74
    · skip
      have hw := hw.2 c5
      refine lv_iload hx hb d_C_signIn_66 (lv_at hl 0 rfl) ?_
      refine lv_goto (tgt := 74) hx hb d_C_signIn_68 (by decide) ?_
      exact W.iret (v := r4) hx hb hr (fun t ht hW => ⟨r4, rfl, hw, ht⟩) (fun _ h => by cases h) d_C_signIn_74
  · skip
    have hw := hw.2 c2
    refine lv_aload_n hx hb d_C_signIn_9 rfl (lv_at hl 0 rfl) ?_
    refine va_get (D := (dC, dI)) (ci := 1) (v := .ref (h 1)) (C := RC) (T := TC) (N := 10) hx hb hts i_C hown hK hP 0 rfl rfl 0 (by decide) (hts _ m_106) (fun _ h9 => h9) rfl d_C_signIn_10 ?_
    refine lv_iload_n hx hb d_C_signIn_13 rfl (lv_at hl 3 rfl) ?_
    refine va_iald hx hb hK hP 1 0 rfl rfl h1 d_C_signIn_14 ?_
    refine lv_i2l (v := ((CS.a st) p2.toNatClampNeg).toInt64) hx hb d_C_signIn_15 rfl ?_
    refine lv_aload_n hx hb d_C_signIn_16 rfl (lv_at hl 0 rfl) ?_
    refine va_get (D := (dC, dI)) (ci := 1) (v := .ref (h 10)) (C := RC) (T := TC) (N := 10) hx hb hts i_C hown hK hP 0 rfl rfl 6 (by decide) (hts _ m_112) (fun _ h9 => h9) rfl d_C_signIn_17 ?_
    refine lv_iload_n hx hb d_C_signIn_20 rfl (lv_at hl 1 rfl) ?_
    obtain ⟨h6, hw⟩ := hw
    refine va_lald hx hb hK hP 10 7 rfl rfl h6 d_C_signIn_21 ?_
    refine lv_lmul hx hb d_C_signIn_22 ?_
    refine lv_aload_n hx hb d_C_signIn_23 rfl (lv_at hl 0 rfl) ?_
    refine va_get (D := (dC, dI)) (ci := 1) (v := .ref (h 3)) (C := RC) (T := TC) (N := 10) hx hb hts i_C hown hK hP 0 rfl rfl 2 (by decide) (hts _ m_108) (fun _ h9 => h9) rfl d_C_signIn_24 ?_
    refine lv_iload_n hx hb d_C_signIn_27 rfl (lv_at hl 3 rfl) ?_
    refine va_iald hx hb hK hP 3 2 rfl rfl h1 d_C_signIn_28 ?_
    refine lv_i2l (v := ((CS.c st) p2.toNatClampNeg).toInt64) hx hb d_C_signIn_29 rfl ?_
    refine lv_aload_n hx hb d_C_signIn_30 rfl (lv_at hl 0 rfl) ?_
    refine va_get (D := (dC, dI)) (ci := 1) (v := .ref (h 11)) (C := RC) (T := TC) (N := 10) hx hb hts i_C hown hK hP 0 rfl rfl 7 (by decide) (hts _ m_113) (fun _ h9 => h9) rfl d_C_signIn_31 ?_
    refine lv_iload_n hx hb d_C_signIn_34 rfl (lv_at hl 1 rfl) ?_
    refine va_lald hx hb hK hP 11 8 rfl rfl h6 d_C_signIn_35 ?_
    refine lv_lmul hx hb d_C_signIn_36 ?_
    refine lv_ladd hx hb d_C_signIn_37 ?_
    refine lv_lconst (v := 0) hx hb d_C_signIn_38 (by decide) ?_
    refine vp_callSi (va_Run.run (va_runS (As := [.long (((((CS.a st) p2.toNatClampNeg).toInt64) * ((CS.sa st) p0.toNatClampNeg)) + ((((CS.c st) p2.toNatClampNeg).toInt64) * ((CS.sb st) p0.toNatClampNeg))), .long 0]) (rest := []) ⟨hx, hb, hml, hown, hts⟩ (t_JL_compare l (((((CS.a st) p2.toNatClampNeg).toInt64) * ((CS.sa st) p0.toNatClampNeg)) + ((((CS.c st) p2.toNatClampNeg).toInt64) * ((CS.sb st) p0.toNatClampNeg))) (0 : Int64) hw) (va_cwS 2 hts (gS m_161 m_63 m_3 (cw_call m_64)) rfl rfl rfl (by decide +kernel) ⟨Nat.le_of_ble_eq_true rfl, Nat.le_of_ble_eq_true rfl⟩) ⟨pSt_bl, fun U hU hW => ⟨rfl, trivial⟩⟩ rfl rfl hl.1 rfl (lv_room (Nat.le_of_ble_eq_true rfl)) d_C_signIn_39 ⟨Nat.le_of_ble_eq_true rfl, Nat.le_of_ble_eq_true rfl⟩)) (fun r7 hw => ?_)
    exact W.iret (v := r7) hx hb hr (fun t ht hW => ⟨r7, rfl, hw, ht⟩) (fun _ h => by cases h) d_C_signIn_42
def w_C_hasSigns_3 (st : CS) (post : Int32 → Prop) : Nat → Int32 → Int32 → Int32 → Int32 → Prop
  | 0, _, _, _, _ => False
  | n + 1, v1, v2, v3, v4 => ((CS.lc st) ≤ v4 → (post 1)) ∧ (¬ (CS.lc st) ≤ v4 → (∀ y3 : Int32, y3 = ((v3 >>> ((2 * v4) &&& 31)) &&& 3) → ((y3 = 0 → (w_C_hasSigns_3 st post n v1 v2 v3 (v4 + 1))) ∧ (¬ y3 = 0 → (w_C_signIn st (fun r5 => (w_C_wantFor (fun r6 => ((y3 = r6 → (w_C_hasSigns_3 st post n v1 v2 v3 (v4 + 1))) ∧ (¬ y3 = r6 → (post 0)))) r5)) v1 v2 v4)))))
set_option maxHeartbeats 4000000 in
set_option maxRecDepth 100000 in
theorem k_C_hasSigns_3 {p : Program} {l : Launch} {e : Env} {s : State} {m : MethodId} {args : Array Value} {below : List Frame} {meth : Method} {c : Code} {dC : Nat → ClassId} {dI : Nat → Nat → Nat} {h : Nat → Nat} {k : Nat → ClassId} {st : CS} {post : Int32 → Prop} (C0 : cxt p s m args meth c prog_1_method_31_code 6 RC (some .boolean)) (hK : va_K (dC, dI) vwCl (YC k) s) (hN : va_Nw nestW s) (hP : va_P (dC, dI) vwCl (WC h k st) s.heap) : ∀ (n : Nat), ∀ (v1 : Int32) (v2 : Int32) (v3 : Int32) (v4 : Int32), ∀ ls, lv_has ls 6 [(0, .ref (h 0)), (1, .int v1), (2, .int v2), (3, .int v3), (4, .int v4)] → w_C_hasSigns_3 st post n v1 v2 v3 v4 → W p l e ({ frames := 2, cells := 0, slots := 0, locals := 47 } : Room) s m args below meth c s.heap [] 0 0 (MQ below (vp_Si post) args s 0 0 (fun _ => False)) (F0 m 3 ls []) := by
  obtain ⟨hx, hb, hr, hml, hown, hts, hlocks⟩ := id C0
  intro n
  induction n with
  | zero =>
    intro v1 v2 v3 v4 ls hl hw
    exact False.elim hw
  | succ n ih =>
    intro v1 v2 v3 v4 ls hl hw
    rw [w_C_hasSigns_3] at hw
    refine lv_iload hx hb d_C_hasSigns_3 (lv_at hl 4 rfl) ?_
    refine lv_aload_n hx hb d_C_hasSigns_5 rfl (lv_at hl 0 rfl) ?_
    refine va_get (D := (dC, dI)) (ci := 1) (v := .int (CS.lc st)) (C := RC) (T := TC) (N := 10) hx hb hts i_C hown hK hP 0 rfl rfl 3 (by decide) (hts _ m_109) (fun _ h9 => h9) rfl d_C_hasSigns_6 ?_
    refine lv_icmp_ge (tgt := 51) hx hb d_C_hasSigns_9 (by decide) (fun c2 => ?_) (fun c2 => ?_)
    · skip
      have hw := hw.1 c2
      refine lv_iconst (v := 1) hx hb d_C_hasSigns_51 (by decide) ?_
      exact W.zret (v := 1) hx hb hr rfl (fun t ht hW => ⟨1, rfl, hw, ht⟩) (fun _ h => by cases h) d_C_hasSigns_52
    · skip
      have hw := hw.2 c2
      refine lv_iload_n hx hb d_C_hasSigns_12 rfl (lv_at hl 3 rfl) ?_
      refine lv_iconst (v := 2) hx hb d_C_hasSigns_13 (by decide) ?_
      refine lv_iload hx hb d_C_hasSigns_14 (lv_at hl 4 rfl) ?_
      refine lv_imul hx hb d_C_hasSigns_16 ?_
      refine lv_ishr hx hb d_C_hasSigns_17 ?_
      refine lv_iconst (v := 3) hx hb d_C_hasSigns_18 (by decide) ?_
      refine lv_iand hx hb d_C_hasSigns_19 ?_
      refine lv_topi (fun y3 ey3 => ?_)
      have hw := hw y3 ey3
      refine lv_istore (lv' := [(5, .int y3), (0, .ref (h 0)), (1, .int v1), (2, .int v2), (3, .int v3), (4, .int v4)]) hx hb d_C_hasSigns_20 hl (by decide) rfl (fun ls hl => ?_)
      refine lv_iload hx hb d_C_hasSigns_22 (lv_at hl 0 rfl) ?_
      refine lv_if_eq (tgt := 45) hx hb d_C_hasSigns_24 (by decide) (fun c4 => ?_) (fun c4 => ?_)
      · skip
        have hw := hw.1 c4
        refine lv_iinc (v := (v4 + 1)) (lv' := [(4, .int (v4 + 1)), (5, .int y3), (0, .ref (h 0)), (1, .int v1), (2, .int v2), (3, .int v3)]) hx hb d_C_hasSigns_45 hl (k := 5) rfl rfl (by decide) rfl (fun ls hl => ?_)
        refine lv_goto (tgt := 3) hx hb d_C_hasSigns_48 (by decide) ?_
        exact ih v1 v2 v3 (v4 + 1) ls (lv_sub hl [2, 3, 4, 5, 0] rfl) hw
      · skip
        have hw := hw.2 c4
        refine lv_iload hx hb d_C_hasSigns_27 (lv_at hl 0 rfl) ?_
        refine lv_aload_n hx hb d_C_hasSigns_29 rfl (lv_at hl 1 rfl) ?_
        refine lv_iload_n hx hb d_C_hasSigns_30 rfl (lv_at hl 2 rfl) ?_
        refine lv_iload_n hx hb d_C_hasSigns_31 rfl (lv_at hl 3 rfl) ?_
        refine lv_iload hx hb d_C_hasSigns_32 (lv_at hl 5 rfl) ?_
        refine vp_callSi (va_Run.run (va_runV (As := [.int v1, .int v2, .int v4]) (rest := [.int y3]) ⟨hx, hb, hml, hown, hts⟩ (t_C_signIn l dC dI h k st v1 v2 v4 hw) (cwV 3 hts (gV m_157 m_159 s_10 m_1 (cw_call m_160)) rfl rfl rfl (by decide +kernel) ⟨Nat.le_of_ble_eq_true rfl, Nat.le_of_ble_eq_true rfl⟩) ⟨pRo_bl, va_recv hK hP (ci := 1) (q0 := 0) rfl rfl, fun U hU hW => ⟨rfl, pRo_at hP hK hN hU hW⟩⟩ rfl rfl hl.1 rfl (lv_room (Nat.le_of_ble_eq_true rfl)) d_C_hasSigns_34 ⟨Nat.le_of_ble_eq_true rfl, Nat.le_of_ble_eq_true rfl⟩)) (fun r5 hw => ?_)
        refine vp_callSi (va_Run.run (va_runS (As := [.int r5]) (rest := [.int y3]) ⟨hx, hb, hml, hown, hts⟩ (t_C_wantFor l r5 hw) (va_cwS 1 hts (gS m_165 m_166 m_1 (cw_call m_167)) rfl rfl rfl (by decide +kernel) ⟨Nat.le_of_ble_eq_true rfl, Nat.le_of_ble_eq_true rfl⟩) ⟨pSt_bl, fun U hU hW => ⟨rfl, trivial⟩⟩ rfl rfl hl.1 rfl (lv_room (Nat.le_of_ble_eq_true rfl)) d_C_hasSigns_37 ⟨Nat.le_of_ble_eq_true rfl, Nat.le_of_ble_eq_true rfl⟩)) (fun r6 hw => ?_)
        refine lv_icmp_eq (tgt := 45) hx hb d_C_hasSigns_40 (by decide) (fun c7 => ?_) (fun c7 => ?_)
        · skip
          have hw := hw.1 c7
          refine lv_iinc (v := (v4 + 1)) (lv' := [(4, .int (v4 + 1)), (5, .int y3), (0, .ref (h 0)), (1, .int v1), (2, .int v2), (3, .int v3)]) hx hb d_C_hasSigns_45 hl (k := 5) rfl rfl (by decide) rfl (fun ls hl => ?_)
          refine lv_goto (tgt := 3) hx hb d_C_hasSigns_48 (by decide) ?_
          exact ih v1 v2 v3 (v4 + 1) ls (lv_sub hl [2, 3, 4, 5, 0] rfl) hw
        · skip
          have hw := hw.2 c7
          refine lv_iconst (v := 0) hx hb d_C_hasSigns_43 (by decide) ?_
          exact W.zret (v := 0) hx hb hr rfl (fun t ht hW => ⟨0, rfl, hw, ht⟩) (fun _ h => by cases h) d_C_hasSigns_44
def w_C_hasSigns (st : CS) (post : Int32 → Prop) (p0 : Int32) (p1 : Int32) (p2 : Int32) : Prop := ∃ z, w_C_hasSigns_3 st post z p0 p1 p2 0
set_option maxHeartbeats 4000000 in
set_option maxRecDepth 100000 in
theorem t_C_hasSigns (l : Launch) (dC : Nat → ClassId) (dI : Nat → Nat → Nat) (h : Nat → Nat) (k : Nat → ClassId) (st : CS) (p0 : Int32) (p1 : Int32) (p2 : Int32) {post : Int32 → Prop} (hw : w_C_hasSigns st post p0 p1 p2) : Met l y_C_hasSigns (Cond.code y_C_hasSigns prog_1_method_31_code 6 (some .boolean) :: cw) ({ frames := 2, cells := 0, slots := 0, locals := 47 } : Room) (va_Pc [.ref (h 0), .int p0, .int p1, .int p2] (pRo (dC, dI) (WC h k st) (YC k))) (vp_Si post) 0 0 (fun _ => False) := by
  refine Met.ofW (cc := prog_1_method_31_code) (maxL := 6) (ret := (some .boolean)) (by decide) rfl ?_
  intro p e s m args below meth c s₁ B hml hv
  obtain ⟨rfl, hP, hK, hN⟩ := hv
  have hx := B.exec
  have hb := B.bytes
  have hr := B.returns
  have hts : ∀ w ∈ cw, w.before _ s = true := fun w h => atoms_spec (ws := (Cond.code y_C_hasSigns prog_1_method_31_code 6 (some .boolean) :: cw)) B.pre w (List.mem_cons_of_mem _ h)
  have hown : s.vm.findClass RC = some m.cls := findClass_of_methodNamed B.named
  have hlocks := B.notSynchronized
  have C0 : cxt p s m _ meth c prog_1_method_31_code 6 RC (some .boolean) := ⟨hx, hb, hr, hml, hown, hts, hlocks⟩
  have hl := lv_entry ([.ref (h 0), .int p0, .int p1, .int p2]) (n := 6) (Nat.le_of_ble_eq_true rfl)
  rw [lg_entry_eq]
  generalize (lg_sl ([.ref (h 0), .int p0, .int p1, .int p2]) ++ List.replicate (6 - (lg_sl ([.ref (h 0), .int p0, .int p1, .int p2])).length) Slot.unset).toArray = ls at hl ⊢
  have hl : lv_has ls 6 [(0, .ref (h 0)), (1, .int p0), (2, .int p1), (3, .int p2)] := hl
  unfold w_C_hasSigns at hw
  refine lv_iconst (v := 0) hx hb d_C_hasSigns_0 (by decide) ?_
  refine lv_istore (lv' := [(4, .int 0), (0, .ref (h 0)), (1, .int p0), (2, .int p1), (3, .int p2)]) hx hb d_C_hasSigns_1 hl (by decide) rfl (fun ls hl => ?_)
  obtain ⟨n1, hw⟩ := hw
  exact k_C_hasSigns_3 C0 hK hN hP n1 p0 p1 p2 0 ls (lv_sub hl [1, 2, 3, 4, 0] rfl) hw
def w_C_reaches_3 (st : CS) (post : Int32 → Prop) : Nat → Int32 → Int32 → Int32 → Int32 → Int32 → Prop
  | 0, _, _, _, _, _ => False
  | n + 1, v1, v2, v3, v4, v5 => ((CS.lc st) ≤ v5 → (post 1)) ∧ (¬ (CS.lc st) ≤ v5 → (vp_in v1 31 ∧ (vp_in v5 6 ∧ (w_JI_compare (fun r5 => (vp_in v3 31 ∧ (w_JI_compare (fun r7 => ((r7 = 0 → (w_C_reaches_3 st post n v1 v2 v3 v4 (v5 + 1))) ∧ (¬ r7 = 0 → ((r7 = r5 → (w_C_reaches_3 st post n v1 v2 v3 v4 (v5 + 1))) ∧ (¬ r7 = r5 → (post 0)))))) v4 ((CS.pl st) v3.toNatClampNeg v5.toNatClampNeg)))) v2 ((CS.pl st) v1.toNatClampNeg v5.toNatClampNeg)))))
set_option maxHeartbeats 4000000 in
set_option maxRecDepth 100000 in
theorem k_C_reaches_3 {p : Program} {l : Launch} {e : Env} {s : State} {m : MethodId} {args : Array Value} {below : List Frame} {meth : Method} {c : Code} {dC : Nat → ClassId} {dI : Nat → Nat → Nat} {h : Nat → Nat} {k : Nat → ClassId} {st : CS} {post : Int32 → Prop} (C0 : cxt p s m args meth c prog_1_method_33_code 8 RC (some .boolean)) (hK : va_K (dC, dI) vwCl (YC k) s) (hN : va_Nw nestW s) (hP : va_P (dC, dI) vwCl (WC h k st) s.heap) : ∀ (n : Nat), ∀ (v1 : Int32) (v2 : Int32) (v3 : Int32) (v4 : Int32) (v5 : Int32), ∀ ls, lv_has ls 8 [(0, .ref (h 0)), (1, .int v1), (2, .int v2), (3, .int v3), (4, .int v4), (5, .int v5)] → w_C_reaches_3 st post n v1 v2 v3 v4 v5 → W p l e ({ frames := 1, cells := 0, slots := 0, locals := 21 } : Room) s m args below meth c s.heap [] 0 0 (MQ below (vp_Si post) args s 0 0 (fun _ => False)) (F0 m 3 ls []) := by
  obtain ⟨hx, hb, hr, hml, hown, hts, hlocks⟩ := id C0
  intro n
  induction n with
  | zero =>
    intro v1 v2 v3 v4 v5 ls hl hw
    exact False.elim hw
  | succ n ih =>
    intro v1 v2 v3 v4 v5 ls hl hw
    rw [w_C_reaches_3] at hw
    refine lv_iload hx hb d_C_reaches_3 (lv_at hl 5 rfl) ?_
    refine lv_aload_n hx hb d_C_reaches_5 rfl (lv_at hl 0 rfl) ?_
    refine va_get (D := (dC, dI)) (ci := 1) (v := .int (CS.lc st)) (C := RC) (T := TC) (N := 10) hx hb hts i_C hown hK hP 0 rfl rfl 3 (by decide) (hts _ m_109) (fun _ h9 => h9) rfl d_C_reaches_6 ?_
    refine lv_icmp_ge (tgt := 63) hx hb d_C_reaches_9 (by decide) (fun c2 => ?_) (fun c2 => ?_)
    · skip
      have hw := hw.1 c2
      refine lv_iconst (v := 1) hx hb d_C_reaches_63 (by decide) ?_
      exact W.zret (v := 1) hx hb hr rfl (fun t ht hW => ⟨1, rfl, hw, ht⟩) (fun _ h => by cases h) d_C_reaches_64
    · skip
      have hw := hw.2 c2
      refine lv_iload_n hx hb d_C_reaches_12 rfl (lv_at hl 2 rfl) ?_
      refine lv_aload_n hx hb d_C_reaches_13 rfl (lv_at hl 0 rfl) ?_
      refine va_get (D := (dC, dI)) (ci := 1) (v := .ref (h 12)) (C := RC) (T := TC) (N := 10) hx hb hts i_C hown hK hP 0 rfl rfl 8 (by decide) (hts _ m_114) (fun _ h9 => h9) rfl d_C_reaches_14 ?_
      refine lv_iload_n hx hb d_C_reaches_17 rfl (lv_at hl 1 rfl) ?_
      obtain ⟨h3, hw⟩ := hw
      refine va_aldC (r := fun i => h (i + 14)) hx hb hK hP 12 9 rfl rfl h3 d_C_reaches_18 ?_
      refine W.eq (g2 := F0 m 19 ls (.ref (h (v1.toNatClampNeg + 14)) :: .int v2 :: [])) rfl ?_
      refine lv_iload hx hb d_C_reaches_19 (lv_at hl 5 rfl) ?_
      obtain ⟨h4, hw⟩ := hw
      refine va_iald hx hb hK hP (v1.toNatClampNeg + 14) 11 (wc_row (clamp_lt h3)) rfl h4 d_C_reaches_21 ?_
      refine vp_callSi (va_Run.run (va_runS (As := [.int v2, .int ((CS.pl st) v1.toNatClampNeg v5.toNatClampNeg)]) (rest := []) ⟨hx, hb, hml, hown, hts⟩ (t_JI_compare l v2 ((CS.pl st) v1.toNatClampNeg v5.toNatClampNeg) hw) (va_cwS 2 hts (gS m_162 m_163 m_12 (cw_call m_164)) rfl rfl rfl (by decide +kernel) ⟨Nat.le_of_ble_eq_true rfl, Nat.le_of_ble_eq_true rfl⟩) ⟨pSt_bl, fun U hU hW => ⟨rfl, trivial⟩⟩ rfl rfl hl.1 rfl (lv_room (Nat.le_of_ble_eq_true rfl)) d_C_reaches_22 ⟨Nat.le_of_ble_eq_true rfl, Nat.le_of_ble_eq_true rfl⟩)) (fun r5 hw => ?_)
      refine lv_istore (lv' := [(6, .int r5), (0, .ref (h 0)), (1, .int v1), (2, .int v2), (3, .int v3), (4, .int v4), (5, .int v5)]) hx hb d_C_reaches_25 hl (by decide) rfl (fun ls hl => ?_)
      refine lv_iload hx hb d_C_reaches_27 (lv_at hl 5 rfl) ?_
      refine lv_aload_n hx hb d_C_reaches_29 rfl (lv_at hl 1 rfl) ?_
      refine va_get (D := (dC, dI)) (ci := 1) (v := .ref (h 12)) (C := RC) (T := TC) (N := 10) hx hb hts i_C hown hK hP 0 rfl rfl 8 (by decide) (hts _ m_114) (fun _ h9 => h9) rfl d_C_reaches_30 ?_
      refine lv_iload_n hx hb d_C_reaches_33 rfl (lv_at hl 4 rfl) ?_
      obtain ⟨h6, hw⟩ := hw
      refine va_aldC (r := fun i => h (i + 14)) hx hb hK hP 12 9 rfl rfl h6 d_C_reaches_34 ?_
      refine W.eq (g2 := F0 m 35 ls (.ref (h (v3.toNatClampNeg + 14)) :: .int v4 :: [])) rfl ?_
      refine lv_iload hx hb d_C_reaches_35 (lv_at hl 6 rfl) ?_
      refine va_iald hx hb hK hP (v3.toNatClampNeg + 14) 11 (wc_row (clamp_lt h6)) rfl h4 d_C_reaches_37 ?_
      refine vp_callSi (va_Run.run (va_runS (As := [.int v4, .int ((CS.pl st) v3.toNatClampNeg v5.toNatClampNeg)]) (rest := []) ⟨hx, hb, hml, hown, hts⟩ (t_JI_compare l v4 ((CS.pl st) v3.toNatClampNeg v5.toNatClampNeg) hw) (va_cwS 2 hts (gS m_162 m_163 m_12 (cw_call m_164)) rfl rfl rfl (by decide +kernel) ⟨Nat.le_of_ble_eq_true rfl, Nat.le_of_ble_eq_true rfl⟩) ⟨pSt_bl, fun U hU hW => ⟨rfl, trivial⟩⟩ rfl rfl hl.1 rfl (lv_room (Nat.le_of_ble_eq_true rfl)) d_C_reaches_38 ⟨Nat.le_of_ble_eq_true rfl, Nat.le_of_ble_eq_true rfl⟩)) (fun r7 hw => ?_)
      refine lv_istore (lv' := [(7, .int r7), (6, .int r5), (0, .ref (h 0)), (1, .int v1), (2, .int v2), (3, .int v3), (4, .int v4), (5, .int v5)]) hx hb d_C_reaches_41 hl (by decide) rfl (fun ls hl => ?_)
      refine lv_iload hx hb d_C_reaches_43 (lv_at hl 0 rfl) ?_
      refine lv_if_eq (tgt := 57) hx hb d_C_reaches_45 (by decide) (fun c8 => ?_) (fun c8 => ?_)
      · skip
        have hw := hw.1 c8
        refine lv_iinc (v := (v5 + 1)) (lv' := [(5, .int (v5 + 1)), (7, .int r7), (6, .int r5), (0, .ref (h 0)), (1, .int v1), (2, .int v2), (3, .int v3), (4, .int v4)]) hx hb d_C_reaches_57 hl (k := 7) rfl rfl (by decide) rfl (fun ls hl => ?_)
        refine lv_goto (tgt := 3) hx hb d_C_reaches_60 (by decide) ?_
        exact ih v1 v2 v3 v4 (v5 + 1) ls (lv_sub hl [3, 4, 5, 6, 7, 0] rfl) hw
      · skip
        have hw := hw.2 c8
        refine lv_iload hx hb d_C_reaches_48 (lv_at hl 0 rfl) ?_
        refine lv_iload hx hb d_C_reaches_50 (lv_at hl 1 rfl) ?_
        refine lv_icmp_eq (tgt := 57) hx hb d_C_reaches_52 (by decide) (fun c9 => ?_) (fun c9 => ?_)
        · skip
          have hw := hw.1 c9
          refine lv_iinc (v := (v5 + 1)) (lv' := [(5, .int (v5 + 1)), (7, .int r7), (6, .int r5), (0, .ref (h 0)), (1, .int v1), (2, .int v2), (3, .int v3), (4, .int v4)]) hx hb d_C_reaches_57 hl (k := 7) rfl rfl (by decide) rfl (fun ls hl => ?_)
          refine lv_goto (tgt := 3) hx hb d_C_reaches_60 (by decide) ?_
          exact ih v1 v2 v3 v4 (v5 + 1) ls (lv_sub hl [3, 4, 5, 6, 7, 0] rfl) hw
        · skip
          have hw := hw.2 c9
          refine lv_iconst (v := 0) hx hb d_C_reaches_55 (by decide) ?_
          exact W.zret (v := 0) hx hb hr rfl (fun t ht hW => ⟨0, rfl, hw, ht⟩) (fun _ h => by cases h) d_C_reaches_56
def w_C_reaches (st : CS) (post : Int32 → Prop) (p0 : Int32) (p1 : Int32) (p2 : Int32) (p3 : Int32) : Prop := ∃ z, w_C_reaches_3 st post z p0 p1 p2 p3 0
set_option maxHeartbeats 4000000 in
set_option maxRecDepth 100000 in
theorem t_C_reaches (l : Launch) (dC : Nat → ClassId) (dI : Nat → Nat → Nat) (h : Nat → Nat) (k : Nat → ClassId) (st : CS) (p0 : Int32) (p1 : Int32) (p2 : Int32) (p3 : Int32) {post : Int32 → Prop} (hw : w_C_reaches st post p0 p1 p2 p3) : Met l y_C_reaches (Cond.code y_C_reaches prog_1_method_33_code 8 (some .boolean) :: cw) ({ frames := 1, cells := 0, slots := 0, locals := 21 } : Room) (va_Pc [.ref (h 0), .int p0, .int p1, .int p2, .int p3] (pRo (dC, dI) (WC h k st) (YC k))) (vp_Si post) 0 0 (fun _ => False) := by
  refine Met.ofW (cc := prog_1_method_33_code) (maxL := 8) (ret := (some .boolean)) (by decide) rfl ?_
  intro p e s m args below meth c s₁ B hml hv
  obtain ⟨rfl, hP, hK, hN⟩ := hv
  have hx := B.exec
  have hb := B.bytes
  have hr := B.returns
  have hts : ∀ w ∈ cw, w.before _ s = true := fun w h => atoms_spec (ws := (Cond.code y_C_reaches prog_1_method_33_code 8 (some .boolean) :: cw)) B.pre w (List.mem_cons_of_mem _ h)
  have hown : s.vm.findClass RC = some m.cls := findClass_of_methodNamed B.named
  have hlocks := B.notSynchronized
  have C0 : cxt p s m _ meth c prog_1_method_33_code 8 RC (some .boolean) := ⟨hx, hb, hr, hml, hown, hts, hlocks⟩
  have hl := lv_entry ([.ref (h 0), .int p0, .int p1, .int p2, .int p3]) (n := 8) (Nat.le_of_ble_eq_true rfl)
  rw [lg_entry_eq]
  generalize (lg_sl ([.ref (h 0), .int p0, .int p1, .int p2, .int p3]) ++ List.replicate (8 - (lg_sl ([.ref (h 0), .int p0, .int p1, .int p2, .int p3])).length) Slot.unset).toArray = ls at hl ⊢
  have hl : lv_has ls 8 [(0, .ref (h 0)), (1, .int p0), (2, .int p1), (3, .int p2), (4, .int p3)] := hl
  unfold w_C_reaches at hw
  refine lv_iconst (v := 0) hx hb d_C_reaches_0 (by decide) ?_
  refine lv_istore (lv' := [(5, .int 0), (0, .ref (h 0)), (1, .int p0), (2, .int p1), (3, .int p2), (4, .int p3)]) hx hb d_C_reaches_1 hl (by decide) rfl (fun ls hl => ?_)
  obtain ⟨n1, hw⟩ := hw
  exact k_C_reaches_3 C0 hK hN hP n1 p0 p1 p2 p3 0 ls (lv_sub hl [1, 2, 3, 4, 5, 0] rfl) hw
def w_C_cuts (st : CS) (post : Int32 → Prop) : Prop := post (KS.cnt (CS.cu st))
set_option maxHeartbeats 4000000 in
set_option maxRecDepth 100000 in
theorem t_C_cuts (l : Launch) (dC : Nat → ClassId) (dI : Nat → Nat → Nat) (h : Nat → Nat) (k : Nat → ClassId) (st : CS) {post : Int32 → Prop} (hw : w_C_cuts st post) : Met l y_C_cuts (Cond.code y_C_cuts prog_1_method_4_code 1 (some .int) :: cw) ({ frames := 0, cells := 0, slots := 0, locals := 0 } : Room) (va_Pc [.ref (h 0)] (pRo (dC, dI) (WC h k st) (YC k))) (vp_Si post) 0 0 (fun _ => False) := by
  refine Met.ofW (cc := prog_1_method_4_code) (maxL := 1) (ret := (some .int)) (by decide) rfl ?_
  intro p e s m args below meth c s₁ B hml hv
  obtain ⟨rfl, hP, hK, hN⟩ := hv
  have hx := B.exec
  have hb := B.bytes
  have hr := B.returns
  have hts : ∀ w ∈ cw, w.before _ s = true := fun w h => atoms_spec (ws := (Cond.code y_C_cuts prog_1_method_4_code 1 (some .int) :: cw)) B.pre w (List.mem_cons_of_mem _ h)
  have hown : s.vm.findClass RC = some m.cls := findClass_of_methodNamed B.named
  have hlocks := B.notSynchronized
  have C0 : cxt p s m _ meth c prog_1_method_4_code 1 RC (some .int) := ⟨hx, hb, hr, hml, hown, hts, hlocks⟩
  have hl := lv_entry ([.ref (h 0)]) (n := 1) (Nat.le_of_ble_eq_true rfl)
  rw [lg_entry_eq]
  generalize (lg_sl ([.ref (h 0)]) ++ List.replicate (1 - (lg_sl ([.ref (h 0)])).length) Slot.unset).toArray = ls at hl ⊢
  have hl : lv_has ls 1 [(0, .ref (h 0))] := hl
  unfold w_C_cuts at hw
  refine lv_aload_n hx hb d_C_cuts_0 rfl (lv_at hl 0 rfl) ?_
  refine va_get (D := (dC, dI)) (ci := 1) (v := .ref (h 4)) (C := RC) (T := TC) (N := 10) hx hb hts i_C hown hK hP 0 rfl rfl 4 (by decide) (hts _ m_110) (fun _ h9 => h9) rfl d_C_cuts_1 ?_
  refine va_getN (D := (dC, dI)) (ci := 0) (v := .int (KS.cnt (CS.cu st))) (C := RK) (T := TK) (N := 3) hx hb hts i_K hown hK hP 4 rfl rfl 2 (by decide) (va_Nw.use rfl hN) (fun _ h9 => h9) rfl d_C_cuts_4 ?_
  exact W.iret (v := (KS.cnt (CS.cu st))) hx hb hr (fun t ht hW => ⟨(KS.cnt (CS.cu st)), rfl, hw, ht⟩) (fun _ h => by cases h) d_C_cuts_7
def w_C_total (st : CS) (post : Int32 → Prop) : Prop := w_C_stripCount st (fun r1 => (vp_in r1 32 ∧ (post ((CS.fc st) r1.toNatClampNeg)))) 
set_option maxHeartbeats 4000000 in
set_option maxRecDepth 100000 in
theorem t_C_total (l : Launch) (dC : Nat → ClassId) (dI : Nat → Nat → Nat) (h : Nat → Nat) (k : Nat → ClassId) (st : CS) {post : Int32 → Prop} (hw : w_C_total st post) : Met l y_C_total (Cond.code y_C_total prog_1_method_7_code 1 (some .int) :: cw) ({ frames := 1, cells := 0, slots := 0, locals := 20 } : Room) (va_Pc [.ref (h 0)] (pRo (dC, dI) (WC h k st) (YC k))) (vp_Si post) 0 0 (fun _ => False) := by
  refine Met.ofW (cc := prog_1_method_7_code) (maxL := 1) (ret := (some .int)) (by decide) rfl ?_
  intro p e s m args below meth c s₁ B hml hv
  obtain ⟨rfl, hP, hK, hN⟩ := hv
  have hx := B.exec
  have hb := B.bytes
  have hr := B.returns
  have hts : ∀ w ∈ cw, w.before _ s = true := fun w h => atoms_spec (ws := (Cond.code y_C_total prog_1_method_7_code 1 (some .int) :: cw)) B.pre w (List.mem_cons_of_mem _ h)
  have hown : s.vm.findClass RC = some m.cls := findClass_of_methodNamed B.named
  have hlocks := B.notSynchronized
  have C0 : cxt p s m _ meth c prog_1_method_7_code 1 RC (some .int) := ⟨hx, hb, hr, hml, hown, hts, hlocks⟩
  have hl := lv_entry ([.ref (h 0)]) (n := 1) (Nat.le_of_ble_eq_true rfl)
  rw [lg_entry_eq]
  generalize (lg_sl ([.ref (h 0)]) ++ List.replicate (1 - (lg_sl ([.ref (h 0)])).length) Slot.unset).toArray = ls at hl ⊢
  have hl : lv_has ls 1 [(0, .ref (h 0))] := hl
  unfold w_C_total at hw
  refine lv_aload_n hx hb d_C_total_0 rfl (lv_at hl 0 rfl) ?_
  refine va_get (D := (dC, dI)) (ci := 1) (v := .ref (h 13)) (C := RC) (T := TC) (N := 10) hx hb hts i_C hown hK hP 0 rfl rfl 9 (by decide) (hts _ m_115) (fun _ h9 => h9) rfl d_C_total_1 ?_
  refine lv_aload_n hx hb d_C_total_4 rfl (lv_at hl 0 rfl) ?_
  refine vp_callSi (va_Run.run (va_runV (As := []) (rest := [.ref (h 13)]) ⟨hx, hb, hml, hown, hts⟩ (t_C_stripCount l dC dI h k st  hw) (cwV 0 hts (gV m_65 m_67 s_3 m_1 (cw_call m_68)) rfl rfl rfl (by decide +kernel) ⟨Nat.le_of_ble_eq_true rfl, Nat.le_of_ble_eq_true rfl⟩) ⟨pRo_bl, va_recv hK hP (ci := 1) (q0 := 0) rfl rfl, fun U hU hW => ⟨rfl, pRo_at hP hK hN hU hW⟩⟩ rfl rfl hl.1 rfl (lv_room (Nat.le_of_ble_eq_true rfl)) d_C_total_5 ⟨Nat.le_of_ble_eq_true rfl, Nat.le_of_ble_eq_true rfl⟩)) (fun r1 hw => ?_)
  obtain ⟨h2, hw⟩ := hw
  refine va_iald hx hb hK hP 13 10 rfl rfl h2 d_C_total_8 ?_
  exact W.iret (v := ((CS.fc st) r1.toNatClampNeg)) hx hb hr (fun t ht hW => ⟨((CS.fc st) r1.toNatClampNeg), rfl, hw, ht⟩) (fun _ h => by cases h) d_C_total_9
def w_C_find_22 (st : CS) (post : Int32 → Prop) (K7 : Int32 → Int32 → Int32 → Prop) : Nat → Int32 → Int32 → Int32 → Int32 → Int32 → Prop
  | 0, _, _, _, _, _ => False
  | n + 1, v1, v2, v3, v4, v5 => (v4 ≤ v5 → (K7 v1 v2 (v3 + 1))) ∧ (¬ v4 ≤ v5 → (w_C_hasSigns st (fun r7 => ((r7 = 0 → (w_C_find_22 st post K7 n v1 v2 v3 v4 (v5 + 1))) ∧ (¬ r7 = 0 → (vp_in v3 32 ∧ (post (((CS.fc st) v3.toNatClampNeg) + v5)))))) v3 v5 v1))
set_option maxHeartbeats 4000000 in
set_option maxRecDepth 100000 in
theorem k_C_find_22 {p : Program} {l : Launch} {e : Env} {s : State} {m : MethodId} {args : Array Value} {below : List Frame} {meth : Method} {c : Code} {dC : Nat → ClassId} {dI : Nat → Nat → Nat} {h : Nat → Nat} {k : Nat → ClassId} {st : CS} {post : Int32 → Prop} {K7 : Int32 → Int32 → Int32 → Prop} (C0 : cxt p s m args meth c prog_1_method_12_code 6 RC (some .int)) (hK : va_K (dC, dI) vwCl (YC k) s) (hN : va_Nw nestW s) (hP : va_P (dC, dI) vwCl (WC h k st) s.heap) (hK7 : ∀ (v1 : Int32) (v2 : Int32) (v3 : Int32), ∀ ls, lv_has ls 6 [(0, .ref (h 0)), (1, .int v1), (2, .int v2), (3, .int v3)] → K7 v1 v2 v3 → W p l e ({ frames := 3, cells := 0, slots := 0, locals := 72 } : Room) s m args below meth c s.heap [] 0 0 (MQ below (vp_Si post) args s 0 0 (fun _ => False)) (F0 m 7 ls [])) : ∀ (n : Nat), ∀ (v1 : Int32) (v2 : Int32) (v3 : Int32) (v4 : Int32) (v5 : Int32), ∀ ls, lv_has ls 6 [(0, .ref (h 0)), (1, .int v1), (2, .int v2), (3, .int v3), (4, .int v4), (5, .int v5)] → w_C_find_22 st post K7 n v1 v2 v3 v4 v5 → W p l e ({ frames := 3, cells := 0, slots := 0, locals := 72 } : Room) s m args below meth c s.heap [] 0 0 (MQ below (vp_Si post) args s 0 0 (fun _ => False)) (F0 m 22 ls []) := by
  obtain ⟨hx, hb, hr, hml, hown, hts, hlocks⟩ := id C0
  intro n
  induction n with
  | zero =>
    intro v1 v2 v3 v4 v5 ls hl hw
    exact False.elim hw
  | succ n ih =>
    intro v1 v2 v3 v4 v5 ls hl hw
    rw [w_C_find_22] at hw
    refine lv_iload hx hb d_C_find_22 (lv_at hl 5 rfl) ?_
    refine lv_iload hx hb d_C_find_24 (lv_at hl 4 rfl) ?_
    refine lv_icmp_ge (tgt := 56) hx hb d_C_find_26 (by decide) (fun c6 => ?_) (fun c6 => ?_)
    · skip
      have hw := hw.1 c6
      refine lv_iinc (v := (v3 + 1)) (lv' := [(3, .int (v3 + 1)), (0, .ref (h 0)), (1, .int v1), (2, .int v2), (4, .int v4), (5, .int v5)]) hx hb d_C_find_56 hl (k := 3) rfl rfl (by decide) rfl (fun ls hl => ?_)
      refine lv_goto (tgt := 7) hx hb d_C_find_59 (by decide) ?_
      exact hK7 v1 v2 (v3 + 1) ls (lv_sub hl [1, 2, 3, 0] rfl) hw
    · skip
      have hw := hw.2 c6
      refine lv_aload_n hx hb d_C_find_29 rfl (lv_at hl 0 rfl) ?_
      refine lv_iload_n hx hb d_C_find_30 rfl (lv_at hl 3 rfl) ?_
      refine lv_iload hx hb d_C_find_31 (lv_at hl 5 rfl) ?_
      refine lv_iload_n hx hb d_C_find_33 rfl (lv_at hl 1 rfl) ?_
      refine vp_callSi (va_Run.run (va_runV (As := [.int v3, .int v5, .int v1]) (rest := []) ⟨hx, hb, hml, hown, hts⟩ (t_C_hasSigns l dC dI h k st v3 v5 v1 hw) (cwV 3 hts (gV m_153 m_155 s_9 m_1 (cw_call m_156)) rfl rfl rfl (by decide +kernel) ⟨Nat.le_of_ble_eq_true rfl, Nat.le_of_ble_eq_true rfl⟩) ⟨pRo_bl, va_recv hK hP (ci := 1) (q0 := 0) rfl rfl, fun U hU hW => ⟨rfl, pRo_at hP hK hN hU hW⟩⟩ rfl rfl hl.1 rfl (lv_room (Nat.le_of_ble_eq_true rfl)) d_C_find_34 ⟨Nat.le_of_ble_eq_true rfl, Nat.le_of_ble_eq_true rfl⟩)) (fun r7 hw => ?_)
      refine lv_if_eq (tgt := 50) hx hb d_C_find_37 (by decide) (fun c8 => ?_) (fun c8 => ?_)
      · skip
        have hw := hw.1 c8
        refine lv_iinc (v := (v5 + 1)) (lv' := [(5, .int (v5 + 1)), (0, .ref (h 0)), (1, .int v1), (2, .int v2), (3, .int v3), (4, .int v4)]) hx hb d_C_find_50 hl (k := 5) rfl rfl (by decide) rfl (fun ls hl => ?_)
        refine lv_goto (tgt := 22) hx hb d_C_find_53 (by decide) ?_
        exact ih v1 v2 v3 v4 (v5 + 1) ls (lv_sub hl [1, 2, 3, 4, 5, 0] rfl) hw
      · skip
        have hw := hw.2 c8
        refine lv_aload_n hx hb d_C_find_40 rfl (lv_at hl 0 rfl) ?_
        refine va_get (D := (dC, dI)) (ci := 1) (v := .ref (h 13)) (C := RC) (T := TC) (N := 10) hx hb hts i_C hown hK hP 0 rfl rfl 9 (by decide) (hts _ m_115) (fun _ h9 => h9) rfl d_C_find_41 ?_
        refine lv_iload_n hx hb d_C_find_44 rfl (lv_at hl 3 rfl) ?_
        obtain ⟨h9, hw⟩ := hw
        refine va_iald hx hb hK hP 13 10 rfl rfl h9 d_C_find_45 ?_
        refine lv_iload hx hb d_C_find_46 (lv_at hl 5 rfl) ?_
        refine lv_iadd hx hb d_C_find_48 ?_
        exact W.iret (v := (((CS.fc st) v3.toNatClampNeg) + v5)) hx hb hr (fun t ht hW => ⟨(((CS.fc st) v3.toNatClampNeg) + v5), rfl, hw, ht⟩) (fun _ h => by cases h) d_C_find_49
def w_C_find_7 (st : CS) (post : Int32 → Prop) : Nat → Int32 → Int32 → Int32 → Prop
  | 0, _, _, _ => False
  | n + 1, v1, v2, v3 => (v2 ≤ v3 → (post (-1))) ∧ (¬ v2 ≤ v3 → (w_C_cellsOf st (fun r4 => (∃ z, w_C_find_22 st post (fun a0 a1 a2 => w_C_find_7 st post n a0 a1 a2) z v1 v2 v3 r4 0)) v3))
set_option maxHeartbeats 4000000 in
set_option maxRecDepth 100000 in
theorem k_C_find_7 {p : Program} {l : Launch} {e : Env} {s : State} {m : MethodId} {args : Array Value} {below : List Frame} {meth : Method} {c : Code} {dC : Nat → ClassId} {dI : Nat → Nat → Nat} {h : Nat → Nat} {k : Nat → ClassId} {st : CS} {post : Int32 → Prop} (C0 : cxt p s m args meth c prog_1_method_12_code 6 RC (some .int)) (hK : va_K (dC, dI) vwCl (YC k) s) (hN : va_Nw nestW s) (hP : va_P (dC, dI) vwCl (WC h k st) s.heap) : ∀ (n : Nat), ∀ (v1 : Int32) (v2 : Int32) (v3 : Int32), ∀ ls, lv_has ls 6 [(0, .ref (h 0)), (1, .int v1), (2, .int v2), (3, .int v3)] → w_C_find_7 st post n v1 v2 v3 → W p l e ({ frames := 3, cells := 0, slots := 0, locals := 72 } : Room) s m args below meth c s.heap [] 0 0 (MQ below (vp_Si post) args s 0 0 (fun _ => False)) (F0 m 7 ls []) := by
  obtain ⟨hx, hb, hr, hml, hown, hts, hlocks⟩ := id C0
  intro n
  induction n with
  | zero =>
    intro v1 v2 v3 ls hl hw
    exact False.elim hw
  | succ n ih =>
    intro v1 v2 v3 ls hl hw
    rw [w_C_find_7] at hw
    refine lv_iload_n hx hb d_C_find_7 rfl (lv_at hl 3 rfl) ?_
    refine lv_iload_n hx hb d_C_find_8 rfl (lv_at hl 2 rfl) ?_
    refine lv_icmp_ge (tgt := 62) hx hb d_C_find_9 (by decide) (fun c3 => ?_) (fun c3 => ?_)
    · skip
      have hw := hw.1 c3
      refine lv_iconst (v := (-1)) hx hb d_C_find_62 (by decide) ?_
      exact W.iret (v := (-1)) hx hb hr (fun t ht hW => ⟨(-1), rfl, hw, ht⟩) (fun _ h => by cases h) d_C_find_63
    · skip
      have hw := hw.2 c3
      refine lv_aload_n hx hb d_C_find_12 rfl (lv_at hl 0 rfl) ?_
      refine lv_iload_n hx hb d_C_find_13 rfl (lv_at hl 3 rfl) ?_
      refine vp_callSi (va_Run.run (va_runV (As := [.int v3]) (rest := []) ⟨hx, hb, hml, hown, hts⟩ (t_C_cellsOf l dC dI h k st v3 hw) (cwV 1 hts (gV m_149 m_151 s_8 m_1 (cw_call m_152)) rfl rfl rfl (by decide +kernel) ⟨Nat.le_of_ble_eq_true rfl, Nat.le_of_ble_eq_true rfl⟩) ⟨pRo_bl, va_recv hK hP (ci := 1) (q0 := 0) rfl rfl, fun U hU hW => ⟨rfl, pRo_at hP hK hN hU hW⟩⟩ rfl rfl hl.1 rfl (lv_room (Nat.le_of_ble_eq_true rfl)) d_C_find_14 ⟨Nat.le_of_ble_eq_true rfl, Nat.le_of_ble_eq_true rfl⟩)) (fun r4 hw => ?_)
      refine lv_istore (lv' := [(4, .int r4), (0, .ref (h 0)), (1, .int v1), (2, .int v2), (3, .int v3)]) hx hb d_C_find_17 hl (by decide) rfl (fun ls hl => ?_)
      refine lv_iconst (v := 0) hx hb d_C_find_19 (by decide) ?_
      refine lv_istore (lv' := [(5, .int 0), (4, .int r4), (0, .ref (h 0)), (1, .int v1), (2, .int v2), (3, .int v3)]) hx hb d_C_find_20 hl (by decide) rfl (fun ls hl => ?_)
      obtain ⟨n5, hw⟩ := hw
      exact k_C_find_22 C0 hK hN hP ih n5 v1 v2 v3 r4 0 ls (lv_sub hl [2, 3, 4, 5, 1, 0] rfl) hw
def w_C_find (st : CS) (post : Int32 → Prop) (p0 : Int32) : Prop := w_C_stripCount st (fun r1 => (∃ z, w_C_find_7 st post z p0 r1 0)) 
set_option maxHeartbeats 4000000 in
set_option maxRecDepth 100000 in
theorem t_C_find (l : Launch) (dC : Nat → ClassId) (dI : Nat → Nat → Nat) (h : Nat → Nat) (k : Nat → ClassId) (st : CS) (p0 : Int32) {post : Int32 → Prop} (hw : w_C_find st post p0) : Met l y_C_find (Cond.code y_C_find prog_1_method_12_code 6 (some .int) :: cw) ({ frames := 3, cells := 0, slots := 0, locals := 72 } : Room) (va_Pc [.ref (h 0), .int p0] (pRo (dC, dI) (WC h k st) (YC k))) (vp_Si post) 0 0 (fun _ => False) := by
  refine Met.ofW (cc := prog_1_method_12_code) (maxL := 6) (ret := (some .int)) (by decide) rfl ?_
  intro p e s m args below meth c s₁ B hml hv
  obtain ⟨rfl, hP, hK, hN⟩ := hv
  have hx := B.exec
  have hb := B.bytes
  have hr := B.returns
  have hts : ∀ w ∈ cw, w.before _ s = true := fun w h => atoms_spec (ws := (Cond.code y_C_find prog_1_method_12_code 6 (some .int) :: cw)) B.pre w (List.mem_cons_of_mem _ h)
  have hown : s.vm.findClass RC = some m.cls := findClass_of_methodNamed B.named
  have hlocks := B.notSynchronized
  have C0 : cxt p s m _ meth c prog_1_method_12_code 6 RC (some .int) := ⟨hx, hb, hr, hml, hown, hts, hlocks⟩
  have hl := lv_entry ([.ref (h 0), .int p0]) (n := 6) (Nat.le_of_ble_eq_true rfl)
  rw [lg_entry_eq]
  generalize (lg_sl ([.ref (h 0), .int p0]) ++ List.replicate (6 - (lg_sl ([.ref (h 0), .int p0])).length) Slot.unset).toArray = ls at hl ⊢
  have hl : lv_has ls 6 [(0, .ref (h 0)), (1, .int p0)] := hl
  unfold w_C_find at hw
  refine lv_aload_n hx hb d_C_find_0 rfl (lv_at hl 0 rfl) ?_
  refine vp_callSi (va_Run.run (va_runV (As := []) (rest := []) ⟨hx, hb, hml, hown, hts⟩ (t_C_stripCount l dC dI h k st  hw) (cwV 0 hts (gV m_65 m_67 s_3 m_1 (cw_call m_68)) rfl rfl rfl (by decide +kernel) ⟨Nat.le_of_ble_eq_true rfl, Nat.le_of_ble_eq_true rfl⟩) ⟨pRo_bl, va_recv hK hP (ci := 1) (q0 := 0) rfl rfl, fun U hU hW => ⟨rfl, pRo_at hP hK hN hU hW⟩⟩ rfl rfl hl.1 rfl (lv_room (Nat.le_of_ble_eq_true rfl)) d_C_find_1 ⟨Nat.le_of_ble_eq_true rfl, Nat.le_of_ble_eq_true rfl⟩)) (fun r1 hw => ?_)
  refine lv_istore_n (lv' := [(2, .int r1), (0, .ref (h 0)), (1, .int p0)]) hx hb d_C_find_4 rfl hl (by decide) rfl (fun ls hl => ?_)
  refine lv_iconst (v := 0) hx hb d_C_find_5 (by decide) ?_
  refine lv_istore_n (lv' := [(3, .int 0), (2, .int r1), (0, .ref (h 0)), (1, .int p0)]) hx hb d_C_find_6 rfl hl (by decide) rfl (fun ls hl => ?_)
  obtain ⟨n2, hw⟩ := hw
  exact k_C_find_7 C0 hK hN hP n2 p0 r1 0 ls (lv_sub hl [2, 3, 1, 0] rfl) hw
def w_C_lines (st : CS) (post : Int32 → Prop) : Prop := post (CS.lc st)
set_option maxHeartbeats 4000000 in
set_option maxRecDepth 100000 in
theorem t_C_lines (l : Launch) (dC : Nat → ClassId) (dI : Nat → Nat → Nat) (h : Nat → Nat) (k : Nat → ClassId) (st : CS) {post : Int32 → Prop} (hw : w_C_lines st post) : Met l y_C_lines (Cond.code y_C_lines prog_1_method_14_code 1 (some .int) :: cw) ({ frames := 0, cells := 0, slots := 0, locals := 0 } : Room) (va_Pc [.ref (h 0)] (pRo (dC, dI) (WC h k st) (YC k))) (vp_Si post) 0 0 (fun _ => False) := by
  refine Met.ofW (cc := prog_1_method_14_code) (maxL := 1) (ret := (some .int)) (by decide) rfl ?_
  intro p e s m args below meth c s₁ B hml hv
  obtain ⟨rfl, hP, hK, hN⟩ := hv
  have hx := B.exec
  have hb := B.bytes
  have hr := B.returns
  have hts : ∀ w ∈ cw, w.before _ s = true := fun w h => atoms_spec (ws := (Cond.code y_C_lines prog_1_method_14_code 1 (some .int) :: cw)) B.pre w (List.mem_cons_of_mem _ h)
  have hown : s.vm.findClass RC = some m.cls := findClass_of_methodNamed B.named
  have hlocks := B.notSynchronized
  have C0 : cxt p s m _ meth c prog_1_method_14_code 1 RC (some .int) := ⟨hx, hb, hr, hml, hown, hts, hlocks⟩
  have hl := lv_entry ([.ref (h 0)]) (n := 1) (Nat.le_of_ble_eq_true rfl)
  rw [lg_entry_eq]
  generalize (lg_sl ([.ref (h 0)]) ++ List.replicate (1 - (lg_sl ([.ref (h 0)])).length) Slot.unset).toArray = ls at hl ⊢
  have hl : lv_has ls 1 [(0, .ref (h 0))] := hl
  unfold w_C_lines at hw
  refine lv_aload_n hx hb d_C_lines_0 rfl (lv_at hl 0 rfl) ?_
  refine va_get (D := (dC, dI)) (ci := 1) (v := .int (CS.lc st)) (C := RC) (T := TC) (N := 10) hx hb hts i_C hown hK hP 0 rfl rfl 3 (by decide) (hts _ m_109) (fun _ h9 => h9) rfl d_C_lines_1 ?_
  exact W.iret (v := (CS.lc st)) hx hb hr (fun t ht hW => ⟨(CS.lc st), rfl, hw, ht⟩) (fun _ h => by cases h) d_C_lines_4
end
section
def w_C_addCut (st : CS) (post : CS → Prop) (p0 : Int32) (p1 : Int32) : Prop := (p1 ≤ 0 → ((0 ≤ p1 → (post st)) ∧ (¬ 0 ≤ p1 → (w_K_insert (CS.cu st) (fun u3 => (post (CS.set_cu st u3))) (-p0).toInt64 (-p1).toInt64)))) ∧ (¬ p1 ≤ 0 → (w_K_insert (CS.cu st) (fun u4 => (post (CS.set_cu st u4))) p0.toInt64 p1.toInt64))
set_option maxHeartbeats 4000000 in
set_option maxRecDepth 100000 in
theorem t_C_addCut (l : Launch) (dC : Nat → ClassId) (dI : Nat → Nat → Nat) (h : Nat → Nat) (k : Nat → ClassId) (sz : Nat) (st : CS) (p0 : Int32) (p1 : Int32) {post : CS → Prop} (hw : w_C_addCut st post p0 p1) : Met l y_C_addCut (Cond.code y_C_addCut prog_1_method_25_code 3 none :: cw) ({ frames := 3, cells := 0, slots := 0, locals := 76 } : Room) (va_Pc [.ref (h 0), .int p0, .int p1] (pRw (dC, dI) (WC h k st) (YC k) sz)) (va_Qv post (fun u t => va_P (dC, dI) vwCl (WC h k u) t.heap ∧ va_D (va_A (WC h k st) sz) (WC h k u)) (va_A (WC h k st) sz)) 0 0 (va_A (WC h k st) sz) := by
  refine Met.ofW (cc := prog_1_method_25_code) (maxL := 3) (ret := none) (by decide) rfl ?_
  intro p e s m args below meth c s₁ B hml hv
  obtain ⟨rfl, hsz, hP, hK, hN, hD0⟩ := hv
  have hx := B.exec
  have hb := B.bytes
  have hr := B.returns
  have hts : ∀ w ∈ cw, w.before _ s = true := fun w h => atoms_spec (ws := (Cond.code y_C_addCut prog_1_method_25_code 3 none :: cw)) B.pre w (List.mem_cons_of_mem _ h)
  have hown : s.vm.findClass RC = some m.cls := findClass_of_methodNamed B.named
  have hlocks := B.notSynchronized
  have C0 : cxt p s m _ meth c prog_1_method_25_code 3 RC none := ⟨hx, hb, hr, hml, hown, hts, hlocks⟩
  subst hsz
  have hD := hD0.self (sz := s.heap.size)
  generalize hAe : va_A (WC h k st) s.heap.size = A at hD ⊢
  have hA : ∀ q : Nat, s.heap.size ≤ q → A q := fun q h => by rw [← hAe]; exact Or.inr h
  have hS : va_S A s.heap s.heap [] := va_S.rf
  have hl := lv_entry ([.ref (h 0), .int p0, .int p1]) (n := 3) (Nat.le_of_ble_eq_true rfl)
  rw [lg_entry_eq]
  generalize (lg_sl ([.ref (h 0), .int p0, .int p1]) ++ List.replicate (3 - (lg_sl ([.ref (h 0), .int p0, .int p1])).length) Slot.unset).toArray = ls at hl ⊢
  have hl : lv_has ls 3 [(0, .ref (h 0)), (1, .int p0), (2, .int p1)] := hl
  unfold w_C_addCut at hw
  refine lv_iload_n hx hb d_C_addCut_0 rfl (lv_at hl 2 rfl) ?_
  refine lv_if_le (tgt := 18) hx hb d_C_addCut_1 (by decide) (fun c1 => ?_) (fun c1 => ?_)
  · skip
    have hw := hw.1 c1
    refine lv_iload_n hx hb d_C_addCut_18 rfl (lv_at hl 2 rfl) ?_
    refine lv_if_ge (tgt := 35) hx hb d_C_addCut_19 (by decide) (fun c2 => ?_) (fun c2 => ?_)
    · skip
      have hw := hw.1 c2
      exact W.vret hx hb hr (fun t ht hW => ⟨⟨st, rfl, hw, by rw [ht]; exact hP, hD⟩, hS.F ht⟩) hS.2.2 d_C_addCut_35
    · skip
      have hw := hw.2 c2
      refine lv_aload_n hx hb d_C_addCut_22 rfl (lv_at hl 0 rfl) ?_
      refine va_get (D := (dC, dI)) (ci := 1) (v := .ref (h 4)) (C := RC) (T := TC) (N := 10) hx hb hts i_C hown hK hP 0 rfl rfl 4 (by decide) (hts _ m_110) (fun _ h9 => h9) rfl d_C_addCut_23 ?_
      refine lv_iload_n hx hb d_C_addCut_26 rfl (lv_at hl 1 rfl) ?_
      refine lv_ineg hx hb d_C_addCut_27 ?_
      refine lv_i2l (v := (-p0).toInt64) hx hb d_C_addCut_28 rfl ?_
      refine lv_iload_n hx hb d_C_addCut_29 rfl (lv_at hl 2 rfl) ?_
      refine lv_ineg hx hb d_C_addCut_30 ?_
      refine lv_i2l (v := (-p1).toInt64) hx hb d_C_addCut_31 rfl ?_
      have hPc := hP.sub (ws' := WK (fun i => h (4 + i)) (fun i => k (4 + i)) (CS.cu st)) [4, 5, 6] rfl
      have hKc := hK.sub (tys' := YK (fun i => k (4 + i))) [3, 4] rfl
      have hDc := hD.sub (ws' := WK (fun i => h (4 + i)) (fun i => k (4 + i)) (CS.cu st)) [4, 5, 6] (by decide) rfl
      have hFc := va_free (wc := WK (fun i => h (4 + i)) (fun i => k (4 + i)) (CS.cu st)) hD hS hA [4, 5, 6] rfl
      refine va_callv (va_runV (As := [.long (-p0).toInt64, .long (-p1).toInt64]) (rest := []) ⟨hx, hb, hml, hown, hts⟩ (t_K_insert l dC dI (fun i => h (4 + i)) (fun i => k (4 + i)) _ (CS.cu st) (-p0).toInt64 (-p1).toInt64 hw) (cwV 2 hts (gV m_54 m_55 m_56 m_2 (cw_call m_57)) rfl rfl rfl (by decide +kernel) ⟨Nat.le_of_ble_eq_true rfl, Nat.le_of_ble_eq_true rfl⟩) ⟨pRw_bl, va_recv hKc hPc (ci := 0) (q0 := 0) rfl rfl, fun U hU hW => ⟨rfl, pRw_at hPc hKc hN hDc hU hW⟩⟩ rfl rfl hl.1 rfl (lv_room (Nat.le_of_ble_eq_true rfl)) d_C_addCut_32 ⟨Nat.le_of_ble_eq_true rfl, Nat.le_of_ble_eq_true rfl⟩) hS (fun q _ h => hFc q h) hFc (fun u3 t H1 locs ht hvm hw hB hz1 hk1 hS => ?_)
      obtain ⟨hP1, hD1⟩ := hB
      rw [ht] at hP1
      obtain ⟨hP, hD⟩ := va_swap (pre := WC1 h k st) (wc := (WK (fun i => h (4 + i)) (fun i => k (4 + i)) (CS.cu st))) (w1 := WK (fun i => h (4 + i)) (fun i => k (4 + i)) u3) (post := (WK (fun i => h (7 + i)) (fun i => k (7 + i)) (CS.he st)) ++ WC2 h k st) hP hD hk1 hP1 rfl
      generalize H1 = H at hP hS ⊢
      have hP : va_P (dC, dI) vwCl (WC h k (CS.set_cu st u3)) H := hP
      have hD : va_D A (WC h k (CS.set_cu st u3)) := hD
      exact W.vret hx hb hr (fun t ht hW => ⟨⟨(CS.set_cu st u3), rfl, hw, by rw [ht]; exact hP, hD⟩, hS.F ht⟩) hS.2.2 d_C_addCut_35
  · skip
    have hw := hw.2 c1
    refine lv_aload_n hx hb d_C_addCut_4 rfl (lv_at hl 0 rfl) ?_
    refine va_get (D := (dC, dI)) (ci := 1) (v := .ref (h 4)) (C := RC) (T := TC) (N := 10) hx hb hts i_C hown hK hP 0 rfl rfl 4 (by decide) (hts _ m_110) (fun _ h9 => h9) rfl d_C_addCut_5 ?_
    refine lv_iload_n hx hb d_C_addCut_8 rfl (lv_at hl 1 rfl) ?_
    refine lv_i2l (v := p0.toInt64) hx hb d_C_addCut_9 rfl ?_
    refine lv_iload_n hx hb d_C_addCut_10 rfl (lv_at hl 2 rfl) ?_
    refine lv_i2l (v := p1.toInt64) hx hb d_C_addCut_11 rfl ?_
    have hPc := hP.sub (ws' := WK (fun i => h (4 + i)) (fun i => k (4 + i)) (CS.cu st)) [4, 5, 6] rfl
    have hKc := hK.sub (tys' := YK (fun i => k (4 + i))) [3, 4] rfl
    have hDc := hD.sub (ws' := WK (fun i => h (4 + i)) (fun i => k (4 + i)) (CS.cu st)) [4, 5, 6] (by decide) rfl
    have hFc := va_free (wc := WK (fun i => h (4 + i)) (fun i => k (4 + i)) (CS.cu st)) hD hS hA [4, 5, 6] rfl
    refine va_callv (va_runV (As := [.long p0.toInt64, .long p1.toInt64]) (rest := []) ⟨hx, hb, hml, hown, hts⟩ (t_K_insert l dC dI (fun i => h (4 + i)) (fun i => k (4 + i)) _ (CS.cu st) p0.toInt64 p1.toInt64 hw) (cwV 2 hts (gV m_54 m_55 m_56 m_2 (cw_call m_57)) rfl rfl rfl (by decide +kernel) ⟨Nat.le_of_ble_eq_true rfl, Nat.le_of_ble_eq_true rfl⟩) ⟨pRw_bl, va_recv hKc hPc (ci := 0) (q0 := 0) rfl rfl, fun U hU hW => ⟨rfl, pRw_at hPc hKc hN hDc hU hW⟩⟩ rfl rfl hl.1 rfl (lv_room (Nat.le_of_ble_eq_true rfl)) d_C_addCut_12 ⟨Nat.le_of_ble_eq_true rfl, Nat.le_of_ble_eq_true rfl⟩) hS (fun q _ h => hFc q h) hFc (fun u4 t H1 locs ht hvm hw hB hz1 hk1 hS => ?_)
    obtain ⟨hP1, hD1⟩ := hB
    rw [ht] at hP1
    obtain ⟨hP, hD⟩ := va_swap (pre := WC1 h k st) (wc := (WK (fun i => h (4 + i)) (fun i => k (4 + i)) (CS.cu st))) (w1 := WK (fun i => h (4 + i)) (fun i => k (4 + i)) u4) (post := (WK (fun i => h (7 + i)) (fun i => k (7 + i)) (CS.he st)) ++ WC2 h k st) hP hD hk1 hP1 rfl
    generalize H1 = H at hP hS ⊢
    have hP : va_P (dC, dI) vwCl (WC h k (CS.set_cu st u4)) H := hP
    have hD : va_D A (WC h k (CS.set_cu st u4)) := hD
    refine lv_goto (tgt := 35) hx hb d_C_addCut_15 (by decide) ?_
    exact W.vret hx hb hr (fun t ht hW => ⟨⟨(CS.set_cu st u4), rfl, hw, by rw [ht]; exact hP, hD⟩, hS.F ht⟩) hS.2.2 d_C_addCut_35
def w_C_gatherCuts_46 (post : CS → Prop) (K10 : CS → Int32 → Prop) : Nat → CS → Int32 → Int32 → Prop
  | 0, _, _, _ => False
  | n + 1, st, v1, v2 => (v1 ≤ v2 → (K10 st (v1 + 1))) ∧ (¬ v1 ≤ v2 → (vp_in v1 6 ∧ (vp_in v2 6 ∧ (w_C_addCut st (fun u11 => (w_C_gatherCuts_46 post K10 n u11 v1 (v2 + 1))) ((((CS.b st) v1.toNatClampNeg) * ((CS.c st) v2.toNatClampNeg)) - (((CS.b st) v2.toNatClampNeg) * ((CS.c st) v1.toNatClampNeg))) ((((CS.a st) v1.toNatClampNeg) * ((CS.b st) v2.toNatClampNeg)) - (((CS.a st) v2.toNatClampNeg) * ((CS.b st) v1.toNatClampNeg)))))))
set_option maxHeartbeats 4000000 in
set_option maxRecDepth 100000 in
theorem k_C_gatherCuts_46 {p : Program} {l : Launch} {e : Env} {s : State} {m : MethodId} {args : Array Value} {below : List Frame} {meth : Method} {c : Code} {dC : Nat → ClassId} {dI : Nat → Nat → Nat} {h : Nat → Nat} {k : Nat → ClassId} {A : Nat → Prop} {post : CS → Prop} {K10 : CS → Int32 → Prop} (C0 : cxt p s m args meth c prog_1_method_24_code 3 RC none) (hK : va_K (dC, dI) vwCl (YC k) s) (hN : va_Nw nestW s) (hA : ∀ q, s.heap.size ≤ q → A q) (hK10 : ∀ (st : CS) (v1 : Int32) (H : Heap) (locs : List Loc), va_P (dC, dI) vwCl (WC h k st) H → va_D A (WC h k st) → va_S A s.heap H locs → ∀ ls, lv_has ls 3 [(0, .ref (h 0)), (1, .int v1)] → K10 st v1 → W p l e ({ frames := 4, cells := 0, slots := 0, locals := 98 } : Room) s m args below meth c H locs 0 0 (MQ below (va_Qv post (fun u t => va_P (dC, dI) vwCl (WC h k u) t.heap ∧ va_D A (WC h k u)) A) args s 0 0 A) (F0 m 10 ls [])) : ∀ (n : Nat), ∀ (st : CS) (v1 : Int32) (v2 : Int32) (H : Heap) (locs : List Loc), va_P (dC, dI) vwCl (WC h k st) H → va_D A (WC h k st) → va_S A s.heap H locs → ∀ ls, lv_has ls 3 [(0, .ref (h 0)), (1, .int v1), (2, .int v2)] → w_C_gatherCuts_46 post K10 n st v1 v2 → W p l e ({ frames := 4, cells := 0, slots := 0, locals := 98 } : Room) s m args below meth c H locs 0 0 (MQ below (va_Qv post (fun u t => va_P (dC, dI) vwCl (WC h k u) t.heap ∧ va_D A (WC h k u)) A) args s 0 0 A) (F0 m 46 ls []) := by
  obtain ⟨hx, hb, hr, hml, hown, hts, hlocks⟩ := id C0
  intro n
  induction n with
  | zero =>
    intro st v1 v2 H locs hP hD hS ls hl hw
    exact False.elim hw
  | succ n ih =>
    intro st v1 v2 H locs hP hD hS ls hl hw
    rw [w_C_gatherCuts_46] at hw
    refine lv_iload_n hx hb d_C_gatherCuts_46 rfl (lv_at hl 2 rfl) ?_
    refine lv_iload_n hx hb d_C_gatherCuts_47 rfl (lv_at hl 1 rfl) ?_
    refine lv_icmp_ge (tgt := 115) hx hb d_C_gatherCuts_48 (by decide) (fun c8 => ?_) (fun c8 => ?_)
    · skip
      have hw := hw.1 c8
      refine lv_iinc (v := (v1 + 1)) (lv' := [(1, .int (v1 + 1)), (0, .ref (h 0)), (2, .int v2)]) hx hb d_C_gatherCuts_115 hl (k := 1) rfl rfl (by decide) rfl (fun ls hl => ?_)
      refine lv_goto (tgt := 10) hx hb d_C_gatherCuts_118 (by decide) ?_
      exact hK10 st (v1 + 1) _ _ hP hD hS ls (lv_sub hl [1, 0] rfl) hw
    · skip
      have hw := hw.2 c8
      refine lv_aload_n hx hb d_C_gatherCuts_51 rfl (lv_at hl 0 rfl) ?_
      refine lv_aload_n hx hb d_C_gatherCuts_52 rfl (lv_at hl 0 rfl) ?_
      refine va_get (D := (dC, dI)) (ci := 1) (v := .ref (h 2)) (C := RC) (T := TC) (N := 10) hx hb hts i_C hown hK hP 0 rfl rfl 1 (by decide) (hts _ m_107) (fun _ h9 => h9) rfl d_C_gatherCuts_53 ?_
      refine lv_iload_n hx hb d_C_gatherCuts_56 rfl (lv_at hl 1 rfl) ?_
      obtain ⟨h9, hw⟩ := hw
      refine va_iald hx hb hK hP 2 1 rfl rfl h9 d_C_gatherCuts_57 ?_
      refine lv_aload_n hx hb d_C_gatherCuts_58 rfl (lv_at hl 0 rfl) ?_
      refine va_get (D := (dC, dI)) (ci := 1) (v := .ref (h 3)) (C := RC) (T := TC) (N := 10) hx hb hts i_C hown hK hP 0 rfl rfl 2 (by decide) (hts _ m_108) (fun _ h9 => h9) rfl d_C_gatherCuts_59 ?_
      refine lv_iload_n hx hb d_C_gatherCuts_62 rfl (lv_at hl 2 rfl) ?_
      obtain ⟨h10, hw⟩ := hw
      refine va_iald hx hb hK hP 3 2 rfl rfl h10 d_C_gatherCuts_63 ?_
      refine lv_imul hx hb d_C_gatherCuts_64 ?_
      refine lv_aload_n hx hb d_C_gatherCuts_65 rfl (lv_at hl 0 rfl) ?_
      refine va_get (D := (dC, dI)) (ci := 1) (v := .ref (h 2)) (C := RC) (T := TC) (N := 10) hx hb hts i_C hown hK hP 0 rfl rfl 1 (by decide) (hts _ m_107) (fun _ h9 => h9) rfl d_C_gatherCuts_66 ?_
      refine lv_iload_n hx hb d_C_gatherCuts_69 rfl (lv_at hl 2 rfl) ?_
      refine va_iald hx hb hK hP 2 1 rfl rfl h10 d_C_gatherCuts_70 ?_
      refine lv_aload_n hx hb d_C_gatherCuts_71 rfl (lv_at hl 0 rfl) ?_
      refine va_get (D := (dC, dI)) (ci := 1) (v := .ref (h 3)) (C := RC) (T := TC) (N := 10) hx hb hts i_C hown hK hP 0 rfl rfl 2 (by decide) (hts _ m_108) (fun _ h9 => h9) rfl d_C_gatherCuts_72 ?_
      refine lv_iload_n hx hb d_C_gatherCuts_75 rfl (lv_at hl 1 rfl) ?_
      refine va_iald hx hb hK hP 3 2 rfl rfl h9 d_C_gatherCuts_76 ?_
      refine lv_imul hx hb d_C_gatherCuts_77 ?_
      refine lv_isub hx hb d_C_gatherCuts_78 ?_
      refine lv_aload_n hx hb d_C_gatherCuts_79 rfl (lv_at hl 0 rfl) ?_
      refine va_get (D := (dC, dI)) (ci := 1) (v := .ref (h 1)) (C := RC) (T := TC) (N := 10) hx hb hts i_C hown hK hP 0 rfl rfl 0 (by decide) (hts _ m_106) (fun _ h9 => h9) rfl d_C_gatherCuts_80 ?_
      refine lv_iload_n hx hb d_C_gatherCuts_83 rfl (lv_at hl 1 rfl) ?_
      refine va_iald hx hb hK hP 1 0 rfl rfl h9 d_C_gatherCuts_84 ?_
      refine lv_aload_n hx hb d_C_gatherCuts_85 rfl (lv_at hl 0 rfl) ?_
      refine va_get (D := (dC, dI)) (ci := 1) (v := .ref (h 2)) (C := RC) (T := TC) (N := 10) hx hb hts i_C hown hK hP 0 rfl rfl 1 (by decide) (hts _ m_107) (fun _ h9 => h9) rfl d_C_gatherCuts_86 ?_
      refine lv_iload_n hx hb d_C_gatherCuts_89 rfl (lv_at hl 2 rfl) ?_
      refine va_iald hx hb hK hP 2 1 rfl rfl h10 d_C_gatherCuts_90 ?_
      refine lv_imul hx hb d_C_gatherCuts_91 ?_
      refine lv_aload_n hx hb d_C_gatherCuts_92 rfl (lv_at hl 0 rfl) ?_
      refine va_get (D := (dC, dI)) (ci := 1) (v := .ref (h 1)) (C := RC) (T := TC) (N := 10) hx hb hts i_C hown hK hP 0 rfl rfl 0 (by decide) (hts _ m_106) (fun _ h9 => h9) rfl d_C_gatherCuts_93 ?_
      refine lv_iload_n hx hb d_C_gatherCuts_96 rfl (lv_at hl 2 rfl) ?_
      refine va_iald hx hb hK hP 1 0 rfl rfl h10 d_C_gatherCuts_97 ?_
      refine lv_aload_n hx hb d_C_gatherCuts_98 rfl (lv_at hl 0 rfl) ?_
      refine va_get (D := (dC, dI)) (ci := 1) (v := .ref (h 2)) (C := RC) (T := TC) (N := 10) hx hb hts i_C hown hK hP 0 rfl rfl 1 (by decide) (hts _ m_107) (fun _ h9 => h9) rfl d_C_gatherCuts_99 ?_
      refine lv_iload_n hx hb d_C_gatherCuts_102 rfl (lv_at hl 1 rfl) ?_
      refine va_iald hx hb hK hP 2 1 rfl rfl h9 d_C_gatherCuts_103 ?_
      refine lv_imul hx hb d_C_gatherCuts_104 ?_
      refine lv_isub hx hb d_C_gatherCuts_105 ?_
      have hFc := va_freeA hD hS hA
      refine va_callv (va_runV (As := [.int ((((CS.b st) v1.toNatClampNeg) * ((CS.c st) v2.toNatClampNeg)) - (((CS.b st) v2.toNatClampNeg) * ((CS.c st) v1.toNatClampNeg))), .int ((((CS.a st) v1.toNatClampNeg) * ((CS.b st) v2.toNatClampNeg)) - (((CS.a st) v2.toNatClampNeg) * ((CS.b st) v1.toNatClampNeg)))]) (rest := []) ⟨hx, hb, hml, hown, hts⟩ (t_C_addCut l dC dI h k _ st ((((CS.b st) v1.toNatClampNeg) * ((CS.c st) v2.toNatClampNeg)) - (((CS.b st) v2.toNatClampNeg) * ((CS.c st) v1.toNatClampNeg))) ((((CS.a st) v1.toNatClampNeg) * ((CS.b st) v2.toNatClampNeg)) - (((CS.a st) v2.toNatClampNeg) * ((CS.b st) v1.toNatClampNeg))) hw) (cwV 2 hts (gV m_50 m_52 s_2 m_1 (cw_call m_53)) rfl rfl rfl (by decide +kernel) ⟨Nat.le_of_ble_eq_true rfl, Nat.le_of_ble_eq_true rfl⟩) ⟨pRw_bl, va_recv hK hP (ci := 1) (q0 := 0) rfl rfl, fun U hU hW => ⟨rfl, pRw_at hP hK hN hD hU hW⟩⟩ rfl rfl hl.1 rfl (lv_room (Nat.le_of_ble_eq_true rfl)) d_C_gatherCuts_106 ⟨Nat.le_of_ble_eq_true rfl, Nat.le_of_ble_eq_true rfl⟩) hS (fun q _ h => hFc q h) hFc (fun u11 t H1 locs ht hvm hw hB hz1 hk1 hS => ?_)
      obtain ⟨hP1, hD1⟩ := hB
      rw [ht] at hP1
      have hP := hP1
      have hD := hD1.weaken (fun _ q _ h => hFc q.1 h)
      generalize H1 = H at hP hS ⊢
      have hP : va_P (dC, dI) vwCl (WC h k u11) H := hP
      have hD : va_D A (WC h k u11) := hD
      refine lv_iinc (v := (v2 + 1)) (lv' := [(2, .int (v2 + 1)), (0, .ref (h 0)), (1, .int v1)]) hx hb d_C_gatherCuts_109 hl (k := 2) rfl rfl (by decide) rfl (fun ls hl => ?_)
      refine lv_goto (tgt := 46) hx hb d_C_gatherCuts_112 (by decide) ?_
      exact ih u11 v1 (v2 + 1) _ _ hP hD hS ls (lv_sub hl [1, 2, 0] rfl) hw
def w_C_gatherCuts_10 (post : CS → Prop) : Nat → CS → Int32 → Prop
  | 0, _, _ => False
  | n + 1, st, v1 => ((CS.lc st) ≤ v1 → (post st)) ∧ (¬ (CS.lc st) ≤ v1 → (vp_in v1 6 ∧ ((¬ ((CS.b st) v1.toNatClampNeg) = 0 → (∃ z, w_C_gatherCuts_46 post (fun a0 a1 => w_C_gatherCuts_10 post n a0 a1) z st v1 0)) ∧ (((CS.b st) v1.toNatClampNeg) = 0 → (w_C_addCut st (fun u6 => (∃ z, w_C_gatherCuts_46 post (fun a0 a1 => w_C_gatherCuts_10 post n a0 a1) z u6 v1 0)) (-((CS.c st) v1.toNatClampNeg)) ((CS.a st) v1.toNatClampNeg))))))
set_option maxHeartbeats 4000000 in
set_option maxRecDepth 100000 in
theorem k_C_gatherCuts_10 {p : Program} {l : Launch} {e : Env} {s : State} {m : MethodId} {args : Array Value} {below : List Frame} {meth : Method} {c : Code} {dC : Nat → ClassId} {dI : Nat → Nat → Nat} {h : Nat → Nat} {k : Nat → ClassId} {A : Nat → Prop} {post : CS → Prop} (C0 : cxt p s m args meth c prog_1_method_24_code 3 RC none) (hK : va_K (dC, dI) vwCl (YC k) s) (hN : va_Nw nestW s) (hA : ∀ q, s.heap.size ≤ q → A q) : ∀ (n : Nat), ∀ (st : CS) (v1 : Int32) (H : Heap) (locs : List Loc), va_P (dC, dI) vwCl (WC h k st) H → va_D A (WC h k st) → va_S A s.heap H locs → ∀ ls, lv_has ls 3 [(0, .ref (h 0)), (1, .int v1)] → w_C_gatherCuts_10 post n st v1 → W p l e ({ frames := 4, cells := 0, slots := 0, locals := 98 } : Room) s m args below meth c H locs 0 0 (MQ below (va_Qv post (fun u t => va_P (dC, dI) vwCl (WC h k u) t.heap ∧ va_D A (WC h k u)) A) args s 0 0 A) (F0 m 10 ls []) := by
  obtain ⟨hx, hb, hr, hml, hown, hts, hlocks⟩ := id C0
  intro n
  induction n with
  | zero =>
    intro st v1 H locs hP hD hS ls hl hw
    exact False.elim hw
  | succ n ih =>
    intro st v1 H locs hP hD hS ls hl hw
    rw [w_C_gatherCuts_10] at hw
    refine lv_iload_n hx hb d_C_gatherCuts_10 rfl (lv_at hl 1 rfl) ?_
    refine lv_aload_n hx hb d_C_gatherCuts_11 rfl (lv_at hl 0 rfl) ?_
    refine va_get (D := (dC, dI)) (ci := 1) (v := .int (CS.lc st)) (C := RC) (T := TC) (N := 10) hx hb hts i_C hown hK hP 0 rfl rfl 3 (by decide) (hts _ m_109) (fun _ h9 => h9) rfl d_C_gatherCuts_12 ?_
    refine lv_icmp_ge (tgt := 121) hx hb d_C_gatherCuts_15 (by decide) (fun c2 => ?_) (fun c2 => ?_)
    · skip
      have hw := hw.1 c2
      exact W.vret hx hb hr (fun t ht hW => ⟨⟨st, rfl, hw, by rw [ht]; exact hP, hD⟩, hS.F ht⟩) hS.2.2 d_C_gatherCuts_121
    · skip
      have hw := hw.2 c2
      refine lv_aload_n hx hb d_C_gatherCuts_18 rfl (lv_at hl 0 rfl) ?_
      refine va_get (D := (dC, dI)) (ci := 1) (v := .ref (h 2)) (C := RC) (T := TC) (N := 10) hx hb hts i_C hown hK hP 0 rfl rfl 1 (by decide) (hts _ m_107) (fun _ h9 => h9) rfl d_C_gatherCuts_19 ?_
      refine lv_iload_n hx hb d_C_gatherCuts_22 rfl (lv_at hl 1 rfl) ?_
      obtain ⟨h3, hw⟩ := hw
      refine va_iald hx hb hK hP 2 1 rfl rfl h3 d_C_gatherCuts_23 ?_
      refine lv_if_ne (tgt := 44) hx hb d_C_gatherCuts_24 (by decide) (fun c4 => ?_) (fun c4 => ?_)
      · skip
        have hw := hw.1 c4
        refine lv_iconst (v := 0) hx hb d_C_gatherCuts_44 (by decide) ?_
        refine lv_istore_n (lv' := [(2, .int 0), (0, .ref (h 0)), (1, .int v1)]) hx hb d_C_gatherCuts_45 rfl hl (by decide) rfl (fun ls hl => ?_)
        obtain ⟨n5, hw⟩ := hw
        exact k_C_gatherCuts_46 C0 hK hN hA ih n5 st v1 0 _ _ hP hD hS ls (lv_sub hl [1, 2, 0] rfl) hw
      · skip
        have hw := hw.2 c4
        refine lv_aload_n hx hb d_C_gatherCuts_27 rfl (lv_at hl 0 rfl) ?_
        refine lv_aload_n hx hb d_C_gatherCuts_28 rfl (lv_at hl 0 rfl) ?_
        refine va_get (D := (dC, dI)) (ci := 1) (v := .ref (h 3)) (C := RC) (T := TC) (N := 10) hx hb hts i_C hown hK hP 0 rfl rfl 2 (by decide) (hts _ m_108) (fun _ h9 => h9) rfl d_C_gatherCuts_29 ?_
        refine lv_iload_n hx hb d_C_gatherCuts_32 rfl (lv_at hl 1 rfl) ?_
        refine va_iald hx hb hK hP 3 2 rfl rfl h3 d_C_gatherCuts_33 ?_
        refine lv_ineg hx hb d_C_gatherCuts_34 ?_
        refine lv_aload_n hx hb d_C_gatherCuts_35 rfl (lv_at hl 0 rfl) ?_
        refine va_get (D := (dC, dI)) (ci := 1) (v := .ref (h 1)) (C := RC) (T := TC) (N := 10) hx hb hts i_C hown hK hP 0 rfl rfl 0 (by decide) (hts _ m_106) (fun _ h9 => h9) rfl d_C_gatherCuts_36 ?_
        refine lv_iload_n hx hb d_C_gatherCuts_39 rfl (lv_at hl 1 rfl) ?_
        refine va_iald hx hb hK hP 1 0 rfl rfl h3 d_C_gatherCuts_40 ?_
        have hFc := va_freeA hD hS hA
        refine va_callv (va_runV (As := [.int (-((CS.c st) v1.toNatClampNeg)), .int ((CS.a st) v1.toNatClampNeg)]) (rest := []) ⟨hx, hb, hml, hown, hts⟩ (t_C_addCut l dC dI h k _ st (-((CS.c st) v1.toNatClampNeg)) ((CS.a st) v1.toNatClampNeg) hw) (cwV 2 hts (gV m_50 m_52 s_2 m_1 (cw_call m_53)) rfl rfl rfl (by decide +kernel) ⟨Nat.le_of_ble_eq_true rfl, Nat.le_of_ble_eq_true rfl⟩) ⟨pRw_bl, va_recv hK hP (ci := 1) (q0 := 0) rfl rfl, fun U hU hW => ⟨rfl, pRw_at hP hK hN hD hU hW⟩⟩ rfl rfl hl.1 rfl (lv_room (Nat.le_of_ble_eq_true rfl)) d_C_gatherCuts_41 ⟨Nat.le_of_ble_eq_true rfl, Nat.le_of_ble_eq_true rfl⟩) hS (fun q _ h => hFc q h) hFc (fun u6 t H1 locs ht hvm hw hB hz1 hk1 hS => ?_)
        obtain ⟨hP1, hD1⟩ := hB
        rw [ht] at hP1
        have hP := hP1
        have hD := hD1.weaken (fun _ q _ h => hFc q.1 h)
        generalize H1 = H at hP hS ⊢
        have hP : va_P (dC, dI) vwCl (WC h k u6) H := hP
        have hD : va_D A (WC h k u6) := hD
        refine lv_iconst (v := 0) hx hb d_C_gatherCuts_44 (by decide) ?_
        refine lv_istore_n (lv' := [(2, .int 0), (0, .ref (h 0)), (1, .int v1)]) hx hb d_C_gatherCuts_45 rfl hl (by decide) rfl (fun ls hl => ?_)
        obtain ⟨n7, hw⟩ := hw
        exact k_C_gatherCuts_46 C0 hK hN hA ih n7 u6 v1 0 _ _ hP hD hS ls (lv_sub hl [1, 2, 0] rfl) hw
def w_C_gatherCuts (st : CS) (post : CS → Prop) : Prop := ∃ z, w_C_gatherCuts_10 post z (CS.set_cu st (KS.set_cnt (CS.cu st) 0)) 0
set_option maxHeartbeats 4000000 in
set_option maxRecDepth 100000 in
theorem t_C_gatherCuts (l : Launch) (dC : Nat → ClassId) (dI : Nat → Nat → Nat) (h : Nat → Nat) (k : Nat → ClassId) (sz : Nat) (st : CS) {post : CS → Prop} (hw : w_C_gatherCuts st post) : Met l y_C_gatherCuts (Cond.code y_C_gatherCuts prog_1_method_24_code 3 none :: cw) ({ frames := 4, cells := 0, slots := 0, locals := 98 } : Room) (va_Pc [.ref (h 0)] (pRw (dC, dI) (WC h k st) (YC k) sz)) (va_Qv post (fun u t => va_P (dC, dI) vwCl (WC h k u) t.heap ∧ va_D (va_A (WC h k st) sz) (WC h k u)) (va_A (WC h k st) sz)) 0 0 (va_A (WC h k st) sz) := by
  refine Met.ofW (cc := prog_1_method_24_code) (maxL := 3) (ret := none) (by decide) rfl ?_
  intro p e s m args below meth c s₁ B hml hv
  obtain ⟨rfl, hsz, hP, hK, hN, hD0⟩ := hv
  have hx := B.exec
  have hb := B.bytes
  have hr := B.returns
  have hts : ∀ w ∈ cw, w.before _ s = true := fun w h => atoms_spec (ws := (Cond.code y_C_gatherCuts prog_1_method_24_code 3 none :: cw)) B.pre w (List.mem_cons_of_mem _ h)
  have hown : s.vm.findClass RC = some m.cls := findClass_of_methodNamed B.named
  have hlocks := B.notSynchronized
  have C0 : cxt p s m _ meth c prog_1_method_24_code 3 RC none := ⟨hx, hb, hr, hml, hown, hts, hlocks⟩
  subst hsz
  have hD := hD0.self (sz := s.heap.size)
  generalize hAe : va_A (WC h k st) s.heap.size = A at hD ⊢
  have hA : ∀ q : Nat, s.heap.size ≤ q → A q := fun q h => by rw [← hAe]; exact Or.inr h
  have hS : va_S A s.heap s.heap [] := va_S.rf
  have hl := lv_entry ([.ref (h 0)]) (n := 3) (Nat.le_of_ble_eq_true rfl)
  rw [lg_entry_eq]
  generalize (lg_sl ([.ref (h 0)]) ++ List.replicate (3 - (lg_sl ([.ref (h 0)])).length) Slot.unset).toArray = ls at hl ⊢
  have hl : lv_has ls 3 [(0, .ref (h 0))] := hl
  unfold w_C_gatherCuts at hw
  refine lv_aload_n hx hb d_C_gatherCuts_0 rfl (lv_at hl 0 rfl) ?_
  refine va_get (D := (dC, dI)) (ci := 1) (v := .ref (h 4)) (C := RC) (T := TC) (N := 10) hx hb hts i_C hown hK hP 0 rfl rfl 4 (by decide) (hts _ m_110) (fun _ h9 => h9) rfl d_C_gatherCuts_1 ?_
  refine lv_iconst (v := 0) hx hb d_C_gatherCuts_4 (by decide) ?_
  refine va_putN (D := (dC, dI)) (ci := 0) (v := .int 0) (ty := .int) (C := RK) (T := TK) (N := 3) hx hb hts i_K tyK tyK_ok nmK hown hK hP hD hS 4 rfl rfl 2 (by decide) (va_Nw.use rfl hN) (fun _ h9 => h9) rfl (by decide +kernel) rfl rfl (Nat.le_of_ble_eq_true rfl) d_C_gatherCuts_5 (fun H locs hP hD hS => ?_)
  have hP : va_P (dC, dI) vwCl (WC h k (CS.set_cu st (KS.set_cnt (CS.cu st) 0))) H := hP
  have hD : va_D A (WC h k (CS.set_cu st (KS.set_cnt (CS.cu st) 0))) := hD
  refine lv_iconst (v := 0) hx hb d_C_gatherCuts_8 (by decide) ?_
  refine lv_istore_n (lv' := [(1, .int 0), (0, .ref (h 0))]) hx hb d_C_gatherCuts_9 rfl hl (by decide) rfl (fun ls hl => ?_)
  obtain ⟨n1, hw⟩ := hw
  exact k_C_gatherCuts_10 C0 hK hN hA n1 (CS.set_cu st (KS.set_cnt (CS.cu st) 0)) 0 _ _ hP hD hS ls (lv_sub hl [1, 0] rfl) hw
def w_C_measureHeights_11 (post : CS → Prop) : Nat → CS → Int64 → Int64 → Int32 → Prop
  | 0, _, _, _, _ => False
  | n + 1, st, v1, v3, v5 => ((CS.lc st) ≤ v5 → (post st)) ∧ (¬ (CS.lc st) ≤ v5 → (vp_in v5 6 ∧ ((((CS.b st) v5.toNatClampNeg) = 0 → (w_C_measureHeights_11 post n st v1 v3 (v5 + 1))) ∧ (¬ ((CS.b st) v5.toNatClampNeg) = 0 → (w_C_heightAbove st (fun r5 => (w_C_heightBelow st (fun r6 => (w_K_insert (CS.he st) (fun u7 => (w_C_measureHeights_11 post n (CS.set_he st u7) v1 v3 (v5 + 1))) r5 r6)) v5 v3)) v5 v1 v3)))))
set_option maxHeartbeats 4000000 in
set_option maxRecDepth 100000 in
theorem k_C_measureHeights_11 {p : Program} {l : Launch} {e : Env} {s : State} {m : MethodId} {args : Array Value} {below : List Frame} {meth : Method} {c : Code} {dC : Nat → ClassId} {dI : Nat → Nat → Nat} {h : Nat → Nat} {k : Nat → ClassId} {A : Nat → Prop} {post : CS → Prop} (C0 : cxt p s m args meth c prog_1_method_27_code 6 RC none) (hK : va_K (dC, dI) vwCl (YC k) s) (hN : va_Nw nestW s) (hA : ∀ q, s.heap.size ≤ q → A q) : ∀ (n : Nat), ∀ (st : CS) (v1 : Int64) (v3 : Int64) (v5 : Int32) (H : Heap) (locs : List Loc), va_P (dC, dI) vwCl (WC h k st) H → va_D A (WC h k st) → va_S A s.heap H locs → ∀ ls, lv_has ls 6 [(0, .ref (h 0)), (1, .long v1), (3, .long v3), (5, .int v5)] → w_C_measureHeights_11 post n st v1 v3 v5 → W p l e ({ frames := 3, cells := 0, slots := 0, locals := 76 } : Room) s m args below meth c H locs 0 0 (MQ below (va_Qv post (fun u t => va_P (dC, dI) vwCl (WC h k u) t.heap ∧ va_D A (WC h k u)) A) args s 0 0 A) (F0 m 11 ls []) := by
  obtain ⟨hx, hb, hr, hml, hown, hts, hlocks⟩ := id C0
  intro n
  induction n with
  | zero =>
    intro st v1 v3 v5 H locs hP hD hS ls hl hw
    exact False.elim hw
  | succ n ih =>
    intro st v1 v3 v5 H locs hP hD hS ls hl hw
    rw [w_C_measureHeights_11] at hw
    refine lv_iload hx hb d_C_measureHeights_11 (lv_at hl 3 rfl) ?_
    refine lv_aload_n hx hb d_C_measureHeights_13 rfl (lv_at hl 0 rfl) ?_
    refine va_get (D := (dC, dI)) (ci := 1) (v := .int (CS.lc st)) (C := RC) (T := TC) (N := 10) hx hb hts i_C hown hK hP 0 rfl rfl 3 (by decide) (hts _ m_109) (fun _ h9 => h9) rfl d_C_measureHeights_14 ?_
    refine lv_icmp_ge (tgt := 58) hx hb d_C_measureHeights_17 (by decide) (fun c2 => ?_) (fun c2 => ?_)
    · skip
      have hw := hw.1 c2
      exact W.vret hx hb hr (fun t ht hW => ⟨⟨st, rfl, hw, by rw [ht]; exact hP, hD⟩, hS.F ht⟩) hS.2.2 d_C_measureHeights_58
    · skip
      have hw := hw.2 c2
      refine lv_aload_n hx hb d_C_measureHeights_20 rfl (lv_at hl 0 rfl) ?_
      refine va_get (D := (dC, dI)) (ci := 1) (v := .ref (h 2)) (C := RC) (T := TC) (N := 10) hx hb hts i_C hown hK hP 0 rfl rfl 1 (by decide) (hts _ m_107) (fun _ h9 => h9) rfl d_C_measureHeights_21 ?_
      refine lv_iload hx hb d_C_measureHeights_24 (lv_at hl 3 rfl) ?_
      obtain ⟨h3, hw⟩ := hw
      refine va_iald hx hb hK hP 2 1 rfl rfl h3 d_C_measureHeights_26 ?_
      refine lv_if_eq (tgt := 52) hx hb d_C_measureHeights_27 (by decide) (fun c4 => ?_) (fun c4 => ?_)
      · skip
        have hw := hw.1 c4
        refine lv_iinc (v := (v5 + 1)) (lv' := [(5, .int (v5 + 1)), (0, .ref (h 0)), (1, .long v1), (3, .long v3)]) hx hb d_C_measureHeights_52 hl (k := 3) rfl rfl (by decide) rfl (fun ls hl => ?_)
        refine lv_goto (tgt := 11) hx hb d_C_measureHeights_55 (by decide) ?_
        exact ih st v1 v3 (v5 + 1) _ _ hP hD hS ls (lv_sub hl [1, 2, 3, 0] rfl) hw
      · skip
        have hw := hw.2 c4
        refine lv_aload_n hx hb d_C_measureHeights_30 rfl (lv_at hl 0 rfl) ?_
        refine va_get (D := (dC, dI)) (ci := 1) (v := .ref (h 7)) (C := RC) (T := TC) (N := 10) hx hb hts i_C hown hK hP 0 rfl rfl 5 (by decide) (hts _ m_111) (fun _ h9 => h9) rfl d_C_measureHeights_31 ?_
        refine lv_aload_n hx hb d_C_measureHeights_34 rfl (lv_at hl 0 rfl) ?_
        refine lv_iload hx hb d_C_measureHeights_35 (lv_at hl 3 rfl) ?_
        refine lv_lload_n hx hb d_C_measureHeights_37 rfl (lv_at hl 1 rfl) ?_
        refine lv_lload_n hx hb d_C_measureHeights_38 rfl (lv_at hl 2 rfl) ?_
        refine vp_callSl (va_Run.run (va_runV (As := [.int v5, .long v1, .long v3]) (rest := [.ref (h 7)]) ⟨hx, hb, hml, hown, hts⟩ (t_C_heightAbove l dC dI h k st v5 v1 v3 hw) (cwV 3 hts (gV m_94 m_96 s_6 m_1 (cw_call m_97)) rfl rfl rfl (by decide +kernel) ⟨Nat.le_of_ble_eq_true rfl, Nat.le_of_ble_eq_true rfl⟩) ⟨pRo_bl, va_recv hK hP (ci := 1) (q0 := 0) rfl rfl, fun U hU hW => ⟨rfl, pRo_at hP hK hN hU hW⟩⟩ rfl rfl hl.1 rfl (lv_room (Nat.le_of_ble_eq_true rfl)) d_C_measureHeights_39 ⟨Nat.le_of_ble_eq_true rfl, Nat.le_of_ble_eq_true rfl⟩)) (fun r5 hw => ?_)
        refine lv_aload_n hx hb d_C_measureHeights_42 rfl (lv_at hl 0 rfl) ?_
        refine lv_iload hx hb d_C_measureHeights_43 (lv_at hl 3 rfl) ?_
        refine lv_lload_n hx hb d_C_measureHeights_45 rfl (lv_at hl 2 rfl) ?_
        refine vp_callSl (va_Run.run (va_runV (As := [.int v5, .long v3]) (rest := [.long r5, .ref (h 7)]) ⟨hx, hb, hml, hown, hts⟩ (t_C_heightBelow l dC dI h k st v5 v3 hw) (cwV 2 hts (gV m_98 m_100 s_7 m_1 (cw_call m_101)) rfl rfl rfl (by decide +kernel) ⟨Nat.le_of_ble_eq_true rfl, Nat.le_of_ble_eq_true rfl⟩) ⟨pRo_bl, va_recv hK hP (ci := 1) (q0 := 0) rfl rfl, fun U hU hW => ⟨rfl, pRo_at hP hK hN hU hW⟩⟩ rfl rfl hl.1 rfl (lv_room (Nat.le_of_ble_eq_true rfl)) d_C_measureHeights_46 ⟨Nat.le_of_ble_eq_true rfl, Nat.le_of_ble_eq_true rfl⟩)) (fun r6 hw => ?_)
        have hPc := hP.sub (ws' := WK (fun i => h (7 + i)) (fun i => k (7 + i)) (CS.he st)) [7, 8, 9] rfl
        have hKc := hK.sub (tys' := YK (fun i => k (7 + i))) [5, 6] rfl
        have hDc := hD.sub (ws' := WK (fun i => h (7 + i)) (fun i => k (7 + i)) (CS.he st)) [7, 8, 9] (by decide) rfl
        have hFc := va_free (wc := WK (fun i => h (7 + i)) (fun i => k (7 + i)) (CS.he st)) hD hS hA [7, 8, 9] rfl
        refine va_callv (va_runV (As := [.long r5, .long r6]) (rest := []) ⟨hx, hb, hml, hown, hts⟩ (t_K_insert l dC dI (fun i => h (7 + i)) (fun i => k (7 + i)) _ (CS.he st) r5 r6 hw) (cwV 2 hts (gV m_54 m_55 m_56 m_2 (cw_call m_57)) rfl rfl rfl (by decide +kernel) ⟨Nat.le_of_ble_eq_true rfl, Nat.le_of_ble_eq_true rfl⟩) ⟨pRw_bl, va_recv hKc hPc (ci := 0) (q0 := 0) rfl rfl, fun U hU hW => ⟨rfl, pRw_at hPc hKc hN hDc hU hW⟩⟩ rfl rfl hl.1 rfl (lv_room (Nat.le_of_ble_eq_true rfl)) d_C_measureHeights_49 ⟨Nat.le_of_ble_eq_true rfl, Nat.le_of_ble_eq_true rfl⟩) hS (fun q _ h => hFc q h) hFc (fun u7 t H1 locs ht hvm hw hB hz1 hk1 hS => ?_)
        obtain ⟨hP1, hD1⟩ := hB
        rw [ht] at hP1
        obtain ⟨hP, hD⟩ := va_swap (pre := WC1 h k st ++ (WK (fun i => h (4 + i)) (fun i => k (4 + i)) (CS.cu st))) (wc := (WK (fun i => h (7 + i)) (fun i => k (7 + i)) (CS.he st))) (w1 := WK (fun i => h (7 + i)) (fun i => k (7 + i)) u7) (post := WC2 h k st) hP hD hk1 hP1 rfl
        generalize H1 = H at hP hS ⊢
        have hP : va_P (dC, dI) vwCl (WC h k (CS.set_he st u7)) H := hP
        have hD : va_D A (WC h k (CS.set_he st u7)) := hD
        refine lv_iinc (v := (v5 + 1)) (lv' := [(5, .int (v5 + 1)), (0, .ref (h 0)), (1, .long v1), (3, .long v3)]) hx hb d_C_measureHeights_52 hl (k := 3) rfl rfl (by decide) rfl (fun ls hl => ?_)
        refine lv_goto (tgt := 11) hx hb d_C_measureHeights_55 (by decide) ?_
        exact ih (CS.set_he st u7) v1 v3 (v5 + 1) _ _ hP hD hS ls (lv_sub hl [1, 2, 3, 0] rfl) hw
def w_C_measureHeights (st : CS) (post : CS → Prop) (p0 : Int64) (p1 : Int64) : Prop := ∃ z, w_C_measureHeights_11 post z (CS.set_he st (KS.set_cnt (CS.he st) 0)) p0 p1 0
set_option maxHeartbeats 4000000 in
set_option maxRecDepth 100000 in
theorem t_C_measureHeights (l : Launch) (dC : Nat → ClassId) (dI : Nat → Nat → Nat) (h : Nat → Nat) (k : Nat → ClassId) (sz : Nat) (st : CS) (p0 : Int64) (p1 : Int64) {post : CS → Prop} (hw : w_C_measureHeights st post p0 p1) : Met l y_C_measureHeights (Cond.code y_C_measureHeights prog_1_method_27_code 6 none :: cw) ({ frames := 3, cells := 0, slots := 0, locals := 76 } : Room) (va_Pc [.ref (h 0), .long p0, .long p1] (pRw (dC, dI) (WC h k st) (YC k) sz)) (va_Qv post (fun u t => va_P (dC, dI) vwCl (WC h k u) t.heap ∧ va_D (va_A (WC h k st) sz) (WC h k u)) (va_A (WC h k st) sz)) 0 0 (va_A (WC h k st) sz) := by
  refine Met.ofW (cc := prog_1_method_27_code) (maxL := 6) (ret := none) (by decide) rfl ?_
  intro p e s m args below meth c s₁ B hml hv
  obtain ⟨rfl, hsz, hP, hK, hN, hD0⟩ := hv
  have hx := B.exec
  have hb := B.bytes
  have hr := B.returns
  have hts : ∀ w ∈ cw, w.before _ s = true := fun w h => atoms_spec (ws := (Cond.code y_C_measureHeights prog_1_method_27_code 6 none :: cw)) B.pre w (List.mem_cons_of_mem _ h)
  have hown : s.vm.findClass RC = some m.cls := findClass_of_methodNamed B.named
  have hlocks := B.notSynchronized
  have C0 : cxt p s m _ meth c prog_1_method_27_code 6 RC none := ⟨hx, hb, hr, hml, hown, hts, hlocks⟩
  subst hsz
  have hD := hD0.self (sz := s.heap.size)
  generalize hAe : va_A (WC h k st) s.heap.size = A at hD ⊢
  have hA : ∀ q : Nat, s.heap.size ≤ q → A q := fun q h => by rw [← hAe]; exact Or.inr h
  have hS : va_S A s.heap s.heap [] := va_S.rf
  have hl := lv_entry ([.ref (h 0), .long p0, .long p1]) (n := 6) (Nat.le_of_ble_eq_true rfl)
  rw [lg_entry_eq]
  generalize (lg_sl ([.ref (h 0), .long p0, .long p1]) ++ List.replicate (6 - (lg_sl ([.ref (h 0), .long p0, .long p1])).length) Slot.unset).toArray = ls at hl ⊢
  have hl : lv_has ls 6 [(0, .ref (h 0)), (1, .long p0), (3, .long p1)] := hl
  unfold w_C_measureHeights at hw
  refine lv_aload_n hx hb d_C_measureHeights_0 rfl (lv_at hl 0 rfl) ?_
  refine va_get (D := (dC, dI)) (ci := 1) (v := .ref (h 7)) (C := RC) (T := TC) (N := 10) hx hb hts i_C hown hK hP 0 rfl rfl 5 (by decide) (hts _ m_111) (fun _ h9 => h9) rfl d_C_measureHeights_1 ?_
  refine lv_iconst (v := 0) hx hb d_C_measureHeights_4 (by decide) ?_
  refine va_putN (D := (dC, dI)) (ci := 0) (v := .int 0) (ty := .int) (C := RK) (T := TK) (N := 3) hx hb hts i_K tyK tyK_ok nmK hown hK hP hD hS 7 rfl rfl 2 (by decide) (va_Nw.use rfl hN) (fun _ h9 => h9) rfl (by decide +kernel) rfl rfl (Nat.le_of_ble_eq_true rfl) d_C_measureHeights_5 (fun H locs hP hD hS => ?_)
  have hP : va_P (dC, dI) vwCl (WC h k (CS.set_he st (KS.set_cnt (CS.he st) 0))) H := hP
  have hD : va_D A (WC h k (CS.set_he st (KS.set_cnt (CS.he st) 0))) := hD
  refine lv_iconst (v := 0) hx hb d_C_measureHeights_8 (by decide) ?_
  refine lv_istore (lv' := [(5, .int 0), (0, .ref (h 0)), (1, .long p0), (3, .long p1)]) hx hb d_C_measureHeights_9 hl (by decide) rfl (fun ls hl => ?_)
  obtain ⟨n1, hw⟩ := hw
  exact k_C_measureHeights_11 C0 hK hN hA n1 (CS.set_he st (KS.set_cnt (CS.he st) 0)) p0 p1 0 _ _ hP hD hS ls (lv_sub hl [1, 2, 3, 0] rfl) hw
def w_C_layStrip_46 (post : CS → Prop) : Nat → CS → Int32 → Int64 → Int64 → Int32 → Prop
  | 0, _, _, _, _, _ => False
  | n + 1, st, v1, v2, v4, v6 => ((CS.lc st) ≤ v6 → (vp_in v1 32 ∧ (vp_in (v1 + 1) 32 ∧ (post (CS.set_fc st (upd (CS.fc st) (v1 + 1).toNatClampNeg ((((CS.fc st) v1.toNatClampNeg) + (2 * (KS.cnt (CS.he st)))) + 1))))))) ∧ (¬ (CS.lc st) ≤ v6 → (vp_in v1 31 ∧ (vp_in v6 6 ∧ ((¬ ((CS.b st) v6.toNatClampNeg) = 0 → (w_C_heightAbove st (fun r12 => (w_C_heightBelow st (fun r13 => (w_K_pieceOf (CS.he st) (fun r14 => (w_C_layStrip_46 post n (CS.set_pl st (va_up (CS.pl st) v1.toNatClampNeg (upd ((CS.pl st) v1.toNatClampNeg) v6.toNatClampNeg r14))) v1 v2 v4 (v6 + 1))) r12 r13)) v6 v4)) v6 v2 v4)) ∧ (((CS.b st) v6.toNatClampNeg) = 0 → (w_C_layStrip_46 post n (CS.set_pl st (va_up (CS.pl st) v1.toNatClampNeg (upd ((CS.pl st) v1.toNatClampNeg) v6.toNatClampNeg (-1)))) v1 v2 v4 (v6 + 1)))))))
set_option maxHeartbeats 4000000 in
set_option maxRecDepth 100000 in
theorem k_C_layStrip_46 {p : Program} {l : Launch} {e : Env} {s : State} {m : MethodId} {args : Array Value} {below : List Frame} {meth : Method} {c : Code} {dC : Nat → ClassId} {dI : Nat → Nat → Nat} {h : Nat → Nat} {k : Nat → ClassId} {A : Nat → Prop} {post : CS → Prop} (C0 : cxt p s m args meth c prog_1_method_26_code 7 RC none) (hK : va_K (dC, dI) vwCl (YC k) s) (hN : va_Nw nestW s) (hA : ∀ q, s.heap.size ≤ q → A q) : ∀ (n : Nat), ∀ (st : CS) (v1 : Int32) (v2 : Int64) (v4 : Int64) (v6 : Int32) (H : Heap) (locs : List Loc), va_P (dC, dI) vwCl (WC h k st) H → va_D A (WC h k st) → va_S A s.heap H locs → ∀ ls, lv_has ls 7 [(0, .ref (h 0)), (1, .int v1), (2, .long v2), (4, .long v4), (6, .int v6)] → w_C_layStrip_46 post n st v1 v2 v4 v6 → W p l e ({ frames := 4, cells := 0, slots := 0, locals := 104 } : Room) s m args below meth c H locs 0 0 (MQ below (va_Qv post (fun u t => va_P (dC, dI) vwCl (WC h k u) t.heap ∧ va_D A (WC h k u)) A) args s 0 0 A) (F0 m 46 ls []) := by
  obtain ⟨hx, hb, hr, hml, hown, hts, hlocks⟩ := id C0
  intro n
  induction n with
  | zero =>
    intro st v1 v2 v4 v6 H locs hP hD hS ls hl hw
    exact False.elim hw
  | succ n ih =>
    intro st v1 v2 v4 v6 H locs hP hD hS ls hl hw
    rw [w_C_layStrip_46] at hw
    refine lv_iload hx hb d_C_layStrip_46 (lv_at hl 4 rfl) ?_
    refine lv_aload_n hx hb d_C_layStrip_48 rfl (lv_at hl 0 rfl) ?_
    refine va_get (D := (dC, dI)) (ci := 1) (v := .int (CS.lc st)) (C := RC) (T := TC) (N := 10) hx hb hts i_C hown hK hP 0 rfl rfl 3 (by decide) (hts _ m_109) (fun _ h9 => h9) rfl d_C_layStrip_49 ?_
    refine lv_icmp_ge (tgt := 108) hx hb d_C_layStrip_52 (by decide) (fun c6 => ?_) (fun c6 => ?_)
    · skip
      have hw := hw.1 c6
      refine lv_aload_n hx hb d_C_layStrip_108 rfl (lv_at hl 0 rfl) ?_
      refine va_get (D := (dC, dI)) (ci := 1) (v := .ref (h 13)) (C := RC) (T := TC) (N := 10) hx hb hts i_C hown hK hP 0 rfl rfl 9 (by decide) (hts _ m_115) (fun _ h9 => h9) rfl d_C_layStrip_109 ?_
      refine lv_iload_n hx hb d_C_layStrip_112 rfl (lv_at hl 1 rfl) ?_
      refine lv_iconst (v := 1) hx hb d_C_layStrip_113 (by decide) ?_
      refine lv_iadd hx hb d_C_layStrip_114 ?_
      refine lv_aload_n hx hb d_C_layStrip_115 rfl (lv_at hl 0 rfl) ?_
      refine va_get (D := (dC, dI)) (ci := 1) (v := .ref (h 13)) (C := RC) (T := TC) (N := 10) hx hb hts i_C hown hK hP 0 rfl rfl 9 (by decide) (hts _ m_115) (fun _ h9 => h9) rfl d_C_layStrip_116 ?_
      refine lv_iload_n hx hb d_C_layStrip_119 rfl (lv_at hl 1 rfl) ?_
      obtain ⟨h7, hw⟩ := hw
      refine va_iald hx hb hK hP 13 10 rfl rfl h7 d_C_layStrip_120 ?_
      refine lv_iconst (v := 2) hx hb d_C_layStrip_121 (by decide) ?_
      refine lv_aload_n hx hb d_C_layStrip_122 rfl (lv_at hl 0 rfl) ?_
      refine va_get (D := (dC, dI)) (ci := 1) (v := .ref (h 7)) (C := RC) (T := TC) (N := 10) hx hb hts i_C hown hK hP 0 rfl rfl 5 (by decide) (hts _ m_111) (fun _ h9 => h9) rfl d_C_layStrip_123 ?_
      refine va_getN (D := (dC, dI)) (ci := 0) (v := .int (KS.cnt (CS.he st))) (C := RK) (T := TK) (N := 3) hx hb hts i_K hown hK hP 7 rfl rfl 2 (by decide) (va_Nw.use rfl hN) (fun _ h9 => h9) rfl d_C_layStrip_126 ?_
      refine lv_imul hx hb d_C_layStrip_129 ?_
      refine lv_iadd hx hb d_C_layStrip_130 ?_
      refine lv_iconst (v := 1) hx hb d_C_layStrip_131 (by decide) ?_
      refine lv_iadd hx hb d_C_layStrip_132 ?_
      obtain ⟨h8, hw⟩ := hw
      refine va_iast hx hb hK hP hD hS 13 10 rfl rfl h8 d_C_layStrip_133 (fun H locs hP hD hS => ?_)
      have hP : va_P (dC, dI) vwCl (WC h k (CS.set_fc st (upd (CS.fc st) (v1 + 1).toNatClampNeg ((((CS.fc st) v1.toNatClampNeg) + (2 * (KS.cnt (CS.he st)))) + 1)))) H := hP
      have hD : va_D A (WC h k (CS.set_fc st (upd (CS.fc st) (v1 + 1).toNatClampNeg ((((CS.fc st) v1.toNatClampNeg) + (2 * (KS.cnt (CS.he st)))) + 1)))) := hD
      exact W.vret hx hb hr (fun t ht hW => ⟨⟨(CS.set_fc st (upd (CS.fc st) (v1 + 1).toNatClampNeg ((((CS.fc st) v1.toNatClampNeg) + (2 * (KS.cnt (CS.he st)))) + 1))), rfl, hw, by rw [ht]; exact hP, hD⟩, hS.F ht⟩) hS.2.2 d_C_layStrip_134
    · skip
      have hw := hw.2 c6
      refine lv_aload_n hx hb d_C_layStrip_55 rfl (lv_at hl 0 rfl) ?_
      refine va_get (D := (dC, dI)) (ci := 1) (v := .ref (h 12)) (C := RC) (T := TC) (N := 10) hx hb hts i_C hown hK hP 0 rfl rfl 8 (by decide) (hts _ m_114) (fun _ h9 => h9) rfl d_C_layStrip_56 ?_
      refine lv_iload_n hx hb d_C_layStrip_59 rfl (lv_at hl 1 rfl) ?_
      obtain ⟨h9, hw⟩ := hw
      refine va_aldC (r := fun i => h (i + 14)) hx hb hK hP 12 9 rfl rfl h9 d_C_layStrip_60 ?_
      refine W.eq (g2 := F0 m 61 ls (.ref (h (v1.toNatClampNeg + 14)) :: [])) rfl ?_
      refine lv_iload hx hb d_C_layStrip_61 (lv_at hl 4 rfl) ?_
      refine lv_aload_n hx hb d_C_layStrip_63 rfl (lv_at hl 0 rfl) ?_
      refine va_get (D := (dC, dI)) (ci := 1) (v := .ref (h 2)) (C := RC) (T := TC) (N := 10) hx hb hts i_C hown hK hP 0 rfl rfl 1 (by decide) (hts _ m_107) (fun _ h9 => h9) rfl d_C_layStrip_64 ?_
      refine lv_iload hx hb d_C_layStrip_67 (lv_at hl 4 rfl) ?_
      obtain ⟨h10, hw⟩ := hw
      refine va_iald hx hb hK hP 2 1 rfl rfl h10 d_C_layStrip_69 ?_
      refine lv_if_ne (tgt := 77) hx hb d_C_layStrip_70 (by decide) (fun c11 => ?_) (fun c11 => ?_)
      · skip
        have hw := hw.1 c11
        refine lv_aload_n hx hb d_C_layStrip_77 rfl (lv_at hl 0 rfl) ?_
        refine va_get (D := (dC, dI)) (ci := 1) (v := .ref (h 7)) (C := RC) (T := TC) (N := 10) hx hb hts i_C hown hK hP 0 rfl rfl 5 (by decide) (hts _ m_111) (fun _ h9 => h9) rfl d_C_layStrip_78 ?_
        refine lv_aload_n hx hb d_C_layStrip_81 rfl (lv_at hl 0 rfl) ?_
        refine lv_iload hx hb d_C_layStrip_82 (lv_at hl 4 rfl) ?_
        refine lv_lload_n hx hb d_C_layStrip_84 rfl (lv_at hl 2 rfl) ?_
        refine lv_lload hx hb d_C_layStrip_85 (lv_at hl 3 rfl) ?_
        refine vp_callSl (va_Run.run (va_runV (As := [.int v6, .long v2, .long v4]) (rest := [.ref (h 7), .int v6, .ref (h (v1.toNatClampNeg + 14))]) ⟨hx, hb, hml, hown, hts⟩ (t_C_heightAbove l dC dI h k st v6 v2 v4 hw) (cwV 3 hts (gV m_94 m_96 s_6 m_1 (cw_call m_97)) rfl rfl rfl (by decide +kernel) ⟨Nat.le_of_ble_eq_true rfl, Nat.le_of_ble_eq_true rfl⟩) ⟨pRo_bl, va_recv hK hP (ci := 1) (q0 := 0) rfl rfl, fun U hU hW => ⟨rfl, pRo_at hP hK hN hU hW⟩⟩ rfl rfl hl.1 rfl (lv_room (Nat.le_of_ble_eq_true rfl)) d_C_layStrip_87 ⟨Nat.le_of_ble_eq_true rfl, Nat.le_of_ble_eq_true rfl⟩)) (fun r12 hw => ?_)
        refine lv_aload_n hx hb d_C_layStrip_90 rfl (lv_at hl 0 rfl) ?_
        refine lv_iload hx hb d_C_layStrip_91 (lv_at hl 4 rfl) ?_
        refine lv_lload hx hb d_C_layStrip_93 (lv_at hl 3 rfl) ?_
        refine vp_callSl (va_Run.run (va_runV (As := [.int v6, .long v4]) (rest := [.long r12, .ref (h 7), .int v6, .ref (h (v1.toNatClampNeg + 14))]) ⟨hx, hb, hml, hown, hts⟩ (t_C_heightBelow l dC dI h k st v6 v4 hw) (cwV 2 hts (gV m_98 m_100 s_7 m_1 (cw_call m_101)) rfl rfl rfl (by decide +kernel) ⟨Nat.le_of_ble_eq_true rfl, Nat.le_of_ble_eq_true rfl⟩) ⟨pRo_bl, va_recv hK hP (ci := 1) (q0 := 0) rfl rfl, fun U hU hW => ⟨rfl, pRo_at hP hK hN hU hW⟩⟩ rfl rfl hl.1 rfl (lv_room (Nat.le_of_ble_eq_true rfl)) d_C_layStrip_95 ⟨Nat.le_of_ble_eq_true rfl, Nat.le_of_ble_eq_true rfl⟩)) (fun r13 hw => ?_)
        have hPc := hP.sub (ws' := WK (fun i => h (7 + i)) (fun i => k (7 + i)) (CS.he st)) [7, 8, 9] rfl
        have hKc := hK.sub (tys' := YK (fun i => k (7 + i))) [5, 6] rfl
        refine vp_callSi (va_Run.run (va_runV (As := [.long r12, .long r13]) (rest := [.int v6, .ref (h (v1.toNatClampNeg + 14))]) ⟨hx, hb, hml, hown, hts⟩ (t_K_pieceOf l dC dI (fun i => h (7 + i)) (fun i => k (7 + i)) (CS.he st) r12 r13 hw) (cwV 2 hts (gV m_105 m_59 m_60 m_2 (cw_call m_61)) rfl rfl rfl (by decide +kernel) ⟨Nat.le_of_ble_eq_true rfl, Nat.le_of_ble_eq_true rfl⟩) ⟨pRo_bl, va_recv hKc hPc (ci := 0) (q0 := 0) rfl rfl, fun U hU hW => ⟨rfl, pRo_at hPc hKc hN hU hW⟩⟩ rfl rfl hl.1 rfl (lv_room (Nat.le_of_ble_eq_true rfl)) d_C_layStrip_98 ⟨Nat.le_of_ble_eq_true rfl, Nat.le_of_ble_eq_true rfl⟩)) (fun r14 hw => ?_)
        refine va_iast hx hb hK hP hD hS (v1.toNatClampNeg + 14) 11 (wc_row (clamp_lt h9)) rfl h10 d_C_layStrip_101 (fun H locs hP hD hS => ?_)
        rw [wc_set (clamp_lt h9)] at hP hD
        have hP : va_P (dC, dI) vwCl (WC h k (CS.set_pl st (va_up (CS.pl st) v1.toNatClampNeg (upd ((CS.pl st) v1.toNatClampNeg) v6.toNatClampNeg r14)))) H := hP
        have hD : va_D A (WC h k (CS.set_pl st (va_up (CS.pl st) v1.toNatClampNeg (upd ((CS.pl st) v1.toNatClampNeg) v6.toNatClampNeg r14)))) := hD
        refine lv_iinc (v := (v6 + 1)) (lv' := [(6, .int (v6 + 1)), (0, .ref (h 0)), (1, .int v1), (2, .long v2), (4, .long v4)]) hx hb d_C_layStrip_102 hl (k := 4) rfl rfl (by decide) rfl (fun ls hl => ?_)
        refine lv_goto (tgt := 46) hx hb d_C_layStrip_105 (by decide) ?_
        exact ih (CS.set_pl st (va_up (CS.pl st) v1.toNatClampNeg (upd ((CS.pl st) v1.toNatClampNeg) v6.toNatClampNeg r14))) v1 v2 v4 (v6 + 1) _ _ hP hD hS ls (lv_sub hl [1, 2, 3, 4, 0] rfl) hw
      · skip
        have hw := hw.2 c11
        refine lv_iconst (v := (-1)) hx hb d_C_layStrip_73 (by decide) ?_
        refine lv_goto (tgt := 101) hx hb d_C_layStrip_74 (by decide) ?_
        refine va_iast hx hb hK hP hD hS (v1.toNatClampNeg + 14) 11 (wc_row (clamp_lt h9)) rfl h10 d_C_layStrip_101 (fun H locs hP hD hS => ?_)
        rw [wc_set (clamp_lt h9)] at hP hD
        have hP : va_P (dC, dI) vwCl (WC h k (CS.set_pl st (va_up (CS.pl st) v1.toNatClampNeg (upd ((CS.pl st) v1.toNatClampNeg) v6.toNatClampNeg (-1))))) H := hP
        have hD : va_D A (WC h k (CS.set_pl st (va_up (CS.pl st) v1.toNatClampNeg (upd ((CS.pl st) v1.toNatClampNeg) v6.toNatClampNeg (-1))))) := hD
        refine lv_iinc (v := (v6 + 1)) (lv' := [(6, .int (v6 + 1)), (0, .ref (h 0)), (1, .int v1), (2, .long v2), (4, .long v4)]) hx hb d_C_layStrip_102 hl (k := 4) rfl rfl (by decide) rfl (fun ls hl => ?_)
        refine lv_goto (tgt := 46) hx hb d_C_layStrip_105 (by decide) ?_
        exact ih (CS.set_pl st (va_up (CS.pl st) v1.toNatClampNeg (upd ((CS.pl st) v1.toNatClampNeg) v6.toNatClampNeg (-1)))) v1 v2 v4 (v6 + 1) _ _ hP hD hS ls (lv_sub hl [1, 2, 3, 4, 0] rfl) hw
def w_C_layStrip (st : CS) (post : CS → Prop) (p0 : Int32) : Prop := w_K_samplePart (CS.cu st) (fun r1 => (w_K_samplePart (CS.cu st) (fun r2 => (vp_in p0 31 ∧ (w_C_measureHeights (CS.set_sb (CS.set_sa st (vp_updL (CS.sa st) p0.toNatClampNeg r1)) (vp_updL (CS.sb st) p0.toNatClampNeg r2)) (fun u4 => (∃ z, w_C_layStrip_46 post z u4 p0 r1 r2 0)) r1 r2))) p0 (1 : Int32))) p0 (0 : Int32)
set_option maxHeartbeats 4000000 in
set_option maxRecDepth 100000 in
theorem t_C_layStrip (l : Launch) (dC : Nat → ClassId) (dI : Nat → Nat → Nat) (h : Nat → Nat) (k : Nat → ClassId) (sz : Nat) (st : CS) (p0 : Int32) {post : CS → Prop} (hw : w_C_layStrip st post p0) : Met l y_C_layStrip (Cond.code y_C_layStrip prog_1_method_26_code 7 none :: cw) ({ frames := 4, cells := 0, slots := 0, locals := 104 } : Room) (va_Pc [.ref (h 0), .int p0] (pRw (dC, dI) (WC h k st) (YC k) sz)) (va_Qv post (fun u t => va_P (dC, dI) vwCl (WC h k u) t.heap ∧ va_D (va_A (WC h k st) sz) (WC h k u)) (va_A (WC h k st) sz)) 0 0 (va_A (WC h k st) sz) := by
  refine Met.ofW (cc := prog_1_method_26_code) (maxL := 7) (ret := none) (by decide) rfl ?_
  intro p e s m args below meth c s₁ B hml hv
  obtain ⟨rfl, hsz, hP, hK, hN, hD0⟩ := hv
  have hx := B.exec
  have hb := B.bytes
  have hr := B.returns
  have hts : ∀ w ∈ cw, w.before _ s = true := fun w h => atoms_spec (ws := (Cond.code y_C_layStrip prog_1_method_26_code 7 none :: cw)) B.pre w (List.mem_cons_of_mem _ h)
  have hown : s.vm.findClass RC = some m.cls := findClass_of_methodNamed B.named
  have hlocks := B.notSynchronized
  have C0 : cxt p s m _ meth c prog_1_method_26_code 7 RC none := ⟨hx, hb, hr, hml, hown, hts, hlocks⟩
  subst hsz
  have hD := hD0.self (sz := s.heap.size)
  generalize hAe : va_A (WC h k st) s.heap.size = A at hD ⊢
  have hA : ∀ q : Nat, s.heap.size ≤ q → A q := fun q h => by rw [← hAe]; exact Or.inr h
  have hS : va_S A s.heap s.heap [] := va_S.rf
  have hl := lv_entry ([.ref (h 0), .int p0]) (n := 7) (Nat.le_of_ble_eq_true rfl)
  rw [lg_entry_eq]
  generalize (lg_sl ([.ref (h 0), .int p0]) ++ List.replicate (7 - (lg_sl ([.ref (h 0), .int p0])).length) Slot.unset).toArray = ls at hl ⊢
  have hl : lv_has ls 7 [(0, .ref (h 0)), (1, .int p0)] := hl
  unfold w_C_layStrip at hw
  refine lv_aload_n hx hb d_C_layStrip_0 rfl (lv_at hl 0 rfl) ?_
  refine va_get (D := (dC, dI)) (ci := 1) (v := .ref (h 4)) (C := RC) (T := TC) (N := 10) hx hb hts i_C hown hK hP 0 rfl rfl 4 (by decide) (hts _ m_110) (fun _ h9 => h9) rfl d_C_layStrip_1 ?_
  refine lv_iload_n hx hb d_C_layStrip_4 rfl (lv_at hl 1 rfl) ?_
  refine lv_iconst (v := 0) hx hb d_C_layStrip_5 (by decide) ?_
  have hPc := hP.sub (ws' := WK (fun i => h (4 + i)) (fun i => k (4 + i)) (CS.cu st)) [4, 5, 6] rfl
  have hKc := hK.sub (tys' := YK (fun i => k (4 + i))) [3, 4] rfl
  refine vp_callSl (va_Run.run (va_runV (As := [.int p0, .int 0]) (rest := []) ⟨hx, hb, hml, hown, hts⟩ (t_K_samplePart l dC dI (fun i => h (4 + i)) (fun i => k (4 + i)) (CS.cu st) p0 (0 : Int32) hw) (cwV 2 hts (gV m_73 m_74 m_75 m_2 (cw_call m_76)) rfl rfl rfl (by decide +kernel) ⟨Nat.le_of_ble_eq_true rfl, Nat.le_of_ble_eq_true rfl⟩) ⟨pRo_bl, va_recv hKc hPc (ci := 0) (q0 := 0) rfl rfl, fun U hU hW => ⟨rfl, pRo_at hPc hKc hN hU hW⟩⟩ rfl rfl hl.1 rfl (lv_room (Nat.le_of_ble_eq_true rfl)) d_C_layStrip_6 ⟨Nat.le_of_ble_eq_true rfl, Nat.le_of_ble_eq_true rfl⟩)) (fun r1 hw => ?_)
  refine lv_lstore_n (lv' := [(2, .long r1), (0, .ref (h 0)), (1, .int p0)]) hx hb d_C_layStrip_9 rfl hl (by decide) rfl (fun ls hl => ?_)
  refine lv_aload_n hx hb d_C_layStrip_10 rfl (lv_at hl 1 rfl) ?_
  refine va_get (D := (dC, dI)) (ci := 1) (v := .ref (h 4)) (C := RC) (T := TC) (N := 10) hx hb hts i_C hown hK hP 0 rfl rfl 4 (by decide) (hts _ m_110) (fun _ h9 => h9) rfl d_C_layStrip_11 ?_
  refine lv_iload_n hx hb d_C_layStrip_14 rfl (lv_at hl 2 rfl) ?_
  refine lv_iconst (v := 1) hx hb d_C_layStrip_15 (by decide) ?_
  have hPc := hP.sub (ws' := WK (fun i => h (4 + i)) (fun i => k (4 + i)) (CS.cu st)) [4, 5, 6] rfl
  have hKc := hK.sub (tys' := YK (fun i => k (4 + i))) [3, 4] rfl
  refine vp_callSl (va_Run.run (va_runV (As := [.int p0, .int 1]) (rest := []) ⟨hx, hb, hml, hown, hts⟩ (t_K_samplePart l dC dI (fun i => h (4 + i)) (fun i => k (4 + i)) (CS.cu st) p0 (1 : Int32) hw) (cwV 2 hts (gV m_73 m_74 m_75 m_2 (cw_call m_76)) rfl rfl rfl (by decide +kernel) ⟨Nat.le_of_ble_eq_true rfl, Nat.le_of_ble_eq_true rfl⟩) ⟨pRo_bl, va_recv hKc hPc (ci := 0) (q0 := 0) rfl rfl, fun U hU hW => ⟨rfl, pRo_at hPc hKc hN hU hW⟩⟩ rfl rfl hl.1 rfl (lv_room (Nat.le_of_ble_eq_true rfl)) d_C_layStrip_16 ⟨Nat.le_of_ble_eq_true rfl, Nat.le_of_ble_eq_true rfl⟩)) (fun r2 hw => ?_)
  refine lv_lstore (lv' := [(4, .long r2), (2, .long r1), (0, .ref (h 0)), (1, .int p0)]) hx hb d_C_layStrip_19 hl (by decide) rfl (fun ls hl => ?_)
  refine lv_aload_n hx hb d_C_layStrip_21 rfl (lv_at hl 2 rfl) ?_
  refine va_get (D := (dC, dI)) (ci := 1) (v := .ref (h 10)) (C := RC) (T := TC) (N := 10) hx hb hts i_C hown hK hP 0 rfl rfl 6 (by decide) (hts _ m_112) (fun _ h9 => h9) rfl d_C_layStrip_22 ?_
  refine lv_iload_n hx hb d_C_layStrip_25 rfl (lv_at hl 3 rfl) ?_
  refine lv_lload_n hx hb d_C_layStrip_26 rfl (lv_at hl 1 rfl) ?_
  obtain ⟨h3, hw⟩ := hw
  refine va_last hx hb hK hP hD hS 10 7 rfl rfl h3 d_C_layStrip_27 (fun H locs hP hD hS => ?_)
  have hP : va_P (dC, dI) vwCl (WC h k (CS.set_sa st (vp_updL (CS.sa st) p0.toNatClampNeg r1))) H := hP
  have hD : va_D A (WC h k (CS.set_sa st (vp_updL (CS.sa st) p0.toNatClampNeg r1))) := hD
  refine lv_aload_n hx hb d_C_layStrip_28 rfl (lv_at hl 2 rfl) ?_
  refine va_get (D := (dC, dI)) (ci := 1) (v := .ref (h 11)) (C := RC) (T := TC) (N := 10) hx hb hts i_C hown hK hP 0 rfl rfl 7 (by decide) (hts _ m_113) (fun _ h9 => h9) rfl d_C_layStrip_29 ?_
  refine lv_iload_n hx hb d_C_layStrip_32 rfl (lv_at hl 3 rfl) ?_
  refine lv_lload hx hb d_C_layStrip_33 (lv_at hl 0 rfl) ?_
  refine va_last hx hb hK hP hD hS 11 8 rfl rfl h3 d_C_layStrip_35 (fun H locs hP hD hS => ?_)
  have hP : va_P (dC, dI) vwCl (WC h k (CS.set_sb (CS.set_sa st (vp_updL (CS.sa st) p0.toNatClampNeg r1)) (vp_updL (CS.sb st) p0.toNatClampNeg r2))) H := hP
  have hD : va_D A (WC h k (CS.set_sb (CS.set_sa st (vp_updL (CS.sa st) p0.toNatClampNeg r1)) (vp_updL (CS.sb st) p0.toNatClampNeg r2))) := hD
  refine lv_aload_n hx hb d_C_layStrip_36 rfl (lv_at hl 2 rfl) ?_
  refine lv_lload_n hx hb d_C_layStrip_37 rfl (lv_at hl 1 rfl) ?_
  refine lv_lload hx hb d_C_layStrip_38 (lv_at hl 0 rfl) ?_
  have hFc := va_freeA hD hS hA
  refine va_callv (va_runV (As := [.long r1, .long r2]) (rest := []) ⟨hx, hb, hml, hown, hts⟩ (t_C_measureHeights l dC dI h k _ (CS.set_sb (CS.set_sa st (vp_updL (CS.sa st) p0.toNatClampNeg r1)) (vp_updL (CS.sb st) p0.toNatClampNeg r2)) r1 r2 hw) (cwV 2 hts (gV m_90 m_92 s_5 m_1 (cw_call m_93)) rfl rfl rfl (by decide +kernel) ⟨Nat.le_of_ble_eq_true rfl, Nat.le_of_ble_eq_true rfl⟩) ⟨pRw_bl, va_recv hK hP (ci := 1) (q0 := 0) rfl rfl, fun U hU hW => ⟨rfl, pRw_at hP hK hN hD hU hW⟩⟩ rfl rfl hl.1 rfl (lv_room (Nat.le_of_ble_eq_true rfl)) d_C_layStrip_40 ⟨Nat.le_of_ble_eq_true rfl, Nat.le_of_ble_eq_true rfl⟩) hS (fun q _ h => hFc q h) hFc (fun u4 t H1 locs ht hvm hw hB hz1 hk1 hS => ?_)
  obtain ⟨hP1, hD1⟩ := hB
  rw [ht] at hP1
  have hP := hP1
  have hD := hD1.weaken (fun _ q _ h => hFc q.1 h)
  generalize H1 = H at hP hS ⊢
  have hP : va_P (dC, dI) vwCl (WC h k u4) H := hP
  have hD : va_D A (WC h k u4) := hD
  refine lv_iconst (v := 0) hx hb d_C_layStrip_43 (by decide) ?_
  refine lv_istore (lv' := [(6, .int 0), (4, .long r2), (2, .long r1), (0, .ref (h 0)), (1, .int p0)]) hx hb d_C_layStrip_44 hl (by decide) rfl (fun ls hl => ?_)
  obtain ⟨n5, hw⟩ := hw
  exact k_C_layStrip_46 C0 hK hN hA n5 u4 p0 r1 r2 0 _ _ hP hD hS ls (lv_sub hl [3, 4, 2, 1, 0] rfl) hw
def w_C_rebuild_18 (post : CS → Prop) : Nat → CS → Int32 → Int32 → Prop
  | 0, _, _, _ => False
  | n + 1, st, v1, v2 => (v1 ≤ v2 → (post st)) ∧ (¬ v1 ≤ v2 → (w_C_layStrip st (fun u5 => (w_C_rebuild_18 post n u5 v1 (v2 + 1))) v2))
set_option maxHeartbeats 4000000 in
set_option maxRecDepth 100000 in
theorem k_C_rebuild_18 {p : Program} {l : Launch} {e : Env} {s : State} {m : MethodId} {args : Array Value} {below : List Frame} {meth : Method} {c : Code} {dC : Nat → ClassId} {dI : Nat → Nat → Nat} {h : Nat → Nat} {k : Nat → ClassId} {A : Nat → Prop} {post : CS → Prop} (C0 : cxt p s m args meth c prog_1_method_23_code 3 RC none) (hK : va_K (dC, dI) vwCl (YC k) s) (hN : va_Nw nestW s) (hA : ∀ q, s.heap.size ≤ q → A q) : ∀ (n : Nat), ∀ (st : CS) (v1 : Int32) (v2 : Int32) (H : Heap) (locs : List Loc), va_P (dC, dI) vwCl (WC h k st) H → va_D A (WC h k st) → va_S A s.heap H locs → ∀ ls, lv_has ls 3 [(0, .ref (h 0)), (1, .int v1), (2, .int v2)] → w_C_rebuild_18 post n st v1 v2 → W p l e ({ frames := 5, cells := 0, slots := 0, locals := 130 } : Room) s m args below meth c H locs 0 0 (MQ below (va_Qv post (fun u t => va_P (dC, dI) vwCl (WC h k u) t.heap ∧ va_D A (WC h k u)) A) args s 0 0 A) (F0 m 18 ls []) := by
  obtain ⟨hx, hb, hr, hml, hown, hts, hlocks⟩ := id C0
  intro n
  induction n with
  | zero =>
    intro st v1 v2 H locs hP hD hS ls hl hw
    exact False.elim hw
  | succ n ih =>
    intro st v1 v2 H locs hP hD hS ls hl hw
    rw [w_C_rebuild_18] at hw
    refine lv_iload_n hx hb d_C_rebuild_18 rfl (lv_at hl 2 rfl) ?_
    refine lv_iload_n hx hb d_C_rebuild_19 rfl (lv_at hl 1 rfl) ?_
    refine lv_icmp_ge (tgt := 34) hx hb d_C_rebuild_20 (by decide) (fun c4 => ?_) (fun c4 => ?_)
    · skip
      have hw := hw.1 c4
      exact W.vret hx hb hr (fun t ht hW => ⟨⟨st, rfl, hw, by rw [ht]; exact hP, hD⟩, hS.F ht⟩) hS.2.2 d_C_rebuild_34
    · skip
      have hw := hw.2 c4
      refine lv_aload_n hx hb d_C_rebuild_23 rfl (lv_at hl 0 rfl) ?_
      refine lv_iload_n hx hb d_C_rebuild_24 rfl (lv_at hl 2 rfl) ?_
      have hFc := va_freeA hD hS hA
      refine va_callv (va_runV (As := [.int v2]) (rest := []) ⟨hx, hb, hml, hown, hts⟩ (t_C_layStrip l dC dI h k _ st v2 hw) (cwV 1 hts (gV m_69 m_71 s_4 m_1 (cw_call m_72)) rfl rfl rfl (by decide +kernel) ⟨Nat.le_of_ble_eq_true rfl, Nat.le_of_ble_eq_true rfl⟩) ⟨pRw_bl, va_recv hK hP (ci := 1) (q0 := 0) rfl rfl, fun U hU hW => ⟨rfl, pRw_at hP hK hN hD hU hW⟩⟩ rfl rfl hl.1 rfl (lv_room (Nat.le_of_ble_eq_true rfl)) d_C_rebuild_25 ⟨Nat.le_of_ble_eq_true rfl, Nat.le_of_ble_eq_true rfl⟩) hS (fun q _ h => hFc q h) hFc (fun u5 t H1 locs ht hvm hw hB hz1 hk1 hS => ?_)
      obtain ⟨hP1, hD1⟩ := hB
      rw [ht] at hP1
      have hP := hP1
      have hD := hD1.weaken (fun _ q _ h => hFc q.1 h)
      generalize H1 = H at hP hS ⊢
      have hP : va_P (dC, dI) vwCl (WC h k u5) H := hP
      have hD : va_D A (WC h k u5) := hD
      refine lv_iinc (v := (v2 + 1)) (lv' := [(2, .int (v2 + 1)), (0, .ref (h 0)), (1, .int v1)]) hx hb d_C_rebuild_28 hl (k := 2) rfl rfl (by decide) rfl (fun ls hl => ?_)
      refine lv_goto (tgt := 18) hx hb d_C_rebuild_31 (by decide) ?_
      exact ih u5 v1 (v2 + 1) _ _ hP hD hS ls (lv_sub hl [1, 2, 0] rfl) hw
def w_C_rebuild (st : CS) (post : CS → Prop) : Prop := w_C_gatherCuts st (fun u1 => (w_C_stripCount u1 (fun r2 => (∃ z, w_C_rebuild_18 post z (CS.set_fc u1 (upd (CS.fc u1) (0 : Int32).toNatClampNeg 0)) r2 0)) )) 
set_option maxHeartbeats 4000000 in
set_option maxRecDepth 100000 in
theorem t_C_rebuild (l : Launch) (dC : Nat → ClassId) (dI : Nat → Nat → Nat) (h : Nat → Nat) (k : Nat → ClassId) (sz : Nat) (st : CS) {post : CS → Prop} (hw : w_C_rebuild st post) : Met l y_C_rebuild (Cond.code y_C_rebuild prog_1_method_23_code 3 none :: cw) ({ frames := 5, cells := 0, slots := 0, locals := 130 } : Room) (va_Pc [.ref (h 0)] (pRw (dC, dI) (WC h k st) (YC k) sz)) (va_Qv post (fun u t => va_P (dC, dI) vwCl (WC h k u) t.heap ∧ va_D (va_A (WC h k st) sz) (WC h k u)) (va_A (WC h k st) sz)) 0 0 (va_A (WC h k st) sz) := by
  refine Met.ofW (cc := prog_1_method_23_code) (maxL := 3) (ret := none) (by decide) rfl ?_
  intro p e s m args below meth c s₁ B hml hv
  obtain ⟨rfl, hsz, hP, hK, hN, hD0⟩ := hv
  have hx := B.exec
  have hb := B.bytes
  have hr := B.returns
  have hts : ∀ w ∈ cw, w.before _ s = true := fun w h => atoms_spec (ws := (Cond.code y_C_rebuild prog_1_method_23_code 3 none :: cw)) B.pre w (List.mem_cons_of_mem _ h)
  have hown : s.vm.findClass RC = some m.cls := findClass_of_methodNamed B.named
  have hlocks := B.notSynchronized
  have C0 : cxt p s m _ meth c prog_1_method_23_code 3 RC none := ⟨hx, hb, hr, hml, hown, hts, hlocks⟩
  subst hsz
  have hD := hD0.self (sz := s.heap.size)
  generalize hAe : va_A (WC h k st) s.heap.size = A at hD ⊢
  have hA : ∀ q : Nat, s.heap.size ≤ q → A q := fun q h => by rw [← hAe]; exact Or.inr h
  have hS : va_S A s.heap s.heap [] := va_S.rf
  have hl := lv_entry ([.ref (h 0)]) (n := 3) (Nat.le_of_ble_eq_true rfl)
  rw [lg_entry_eq]
  generalize (lg_sl ([.ref (h 0)]) ++ List.replicate (3 - (lg_sl ([.ref (h 0)])).length) Slot.unset).toArray = ls at hl ⊢
  have hl : lv_has ls 3 [(0, .ref (h 0))] := hl
  unfold w_C_rebuild at hw
  refine lv_aload_n hx hb d_C_rebuild_0 rfl (lv_at hl 0 rfl) ?_
  have hFc := va_freeA hD hS hA
  refine va_callv (va_runV (As := []) (rest := []) ⟨hx, hb, hml, hown, hts⟩ (t_C_gatherCuts l dC dI h k _ st  hw) (cwV 0 hts (gV m_46 m_48 s_1 m_1 (cw_call m_49)) rfl rfl rfl (by decide +kernel) ⟨Nat.le_of_ble_eq_true rfl, Nat.le_of_ble_eq_true rfl⟩) ⟨pRw_bl, va_recv hK hP (ci := 1) (q0 := 0) rfl rfl, fun U hU hW => ⟨rfl, pRw_at hP hK hN hD hU hW⟩⟩ rfl rfl hl.1 rfl (lv_room (Nat.le_of_ble_eq_true rfl)) d_C_rebuild_1 ⟨Nat.le_of_ble_eq_true rfl, Nat.le_of_ble_eq_true rfl⟩) hS (fun q _ h => hFc q h) hFc (fun u1 t H1 locs ht hvm hw hB hz1 hk1 hS => ?_)
  obtain ⟨hP1, hD1⟩ := hB
  rw [ht] at hP1
  have hP := hP1
  have hD := hD1.weaken (fun _ q _ h => hFc q.1 h)
  generalize H1 = H at hP hS ⊢
  have hP : va_P (dC, dI) vwCl (WC h k u1) H := hP
  have hD : va_D A (WC h k u1) := hD
  refine lv_aload_n hx hb d_C_rebuild_4 rfl (lv_at hl 0 rfl) ?_
  refine vp_callSi (va_Run.run (va_runV (As := []) (rest := []) ⟨hx, hb, hml, hown, hts⟩ (t_C_stripCount l dC dI h k u1  hw) (cwV 0 hts (gV m_65 m_67 s_3 m_1 (cw_call m_68)) rfl rfl rfl (by decide +kernel) ⟨Nat.le_of_ble_eq_true rfl, Nat.le_of_ble_eq_true rfl⟩) ⟨pRo_bl, va_recv hK hP (ci := 1) (q0 := 0) rfl rfl, fun U hU hW => ⟨rfl, pRo_at hP hK hN hU hW⟩⟩ rfl rfl hl.1 rfl (lv_room (Nat.le_of_ble_eq_true rfl)) d_C_rebuild_5 ⟨Nat.le_of_ble_eq_true rfl, Nat.le_of_ble_eq_true rfl⟩)) (fun r2 hw => ?_)
  refine lv_istore_n (lv' := [(1, .int r2), (0, .ref (h 0))]) hx hb d_C_rebuild_8 rfl hl (by decide) rfl (fun ls hl => ?_)
  refine lv_aload_n hx hb d_C_rebuild_9 rfl (lv_at hl 1 rfl) ?_
  refine va_get (D := (dC, dI)) (ci := 1) (v := .ref (h 13)) (C := RC) (T := TC) (N := 10) hx hb hts i_C hown hK hP 0 rfl rfl 9 (by decide) (hts _ m_115) (fun _ h9 => h9) rfl d_C_rebuild_10 ?_
  refine lv_iconst (v := 0) hx hb d_C_rebuild_13 (by decide) ?_
  refine lv_iconst (v := 0) hx hb d_C_rebuild_14 (by decide) ?_
  refine va_iast hx hb hK hP hD hS 13 10 rfl rfl (by unfold vp_in; decide) d_C_rebuild_15 (fun H locs hP hD hS => ?_)
  have hP : va_P (dC, dI) vwCl (WC h k (CS.set_fc u1 (upd (CS.fc u1) (0 : Int32).toNatClampNeg 0))) H := hP
  have hD : va_D A (WC h k (CS.set_fc u1 (upd (CS.fc u1) (0 : Int32).toNatClampNeg 0))) := hD
  refine lv_iconst (v := 0) hx hb d_C_rebuild_16 (by decide) ?_
  refine lv_istore_n (lv' := [(2, .int 0), (1, .int r2), (0, .ref (h 0))]) hx hb d_C_rebuild_17 rfl hl (by decide) rfl (fun ls hl => ?_)
  obtain ⟨n3, hw⟩ := hw
  exact k_C_rebuild_18 C0 hK hN hA n3 (CS.set_fc u1 (upd (CS.fc u1) (0 : Int32).toNatClampNeg 0)) r2 0 _ _ hP hD hS ls (lv_sub hl [2, 1, 0] rfl) hw
end
