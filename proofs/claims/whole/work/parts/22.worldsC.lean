/-! the worlds of the class and of the reference; what is put back behind a call -/
abbrev CS : Type := (Nat → Int32) × (Nat → Int32) × (Nat → Int32) × Int32 × KS × KS × (Nat → Int64) × (Nat → Int64) × (Nat → Nat → Int32) × (Nat → Int32)
def CS.a (s : CS) : Nat → Int32 := s.1
def CS.set_a (s : CS) (v : Nat → Int32) : CS := (v, s.2)
def CS.b (s : CS) : Nat → Int32 := s.2.1
def CS.set_b (s : CS) (v : Nat → Int32) : CS := (s.1, v, s.2.2)
def CS.c (s : CS) : Nat → Int32 := s.2.2.1
def CS.set_c (s : CS) (v : Nat → Int32) : CS := (s.1, s.2.1, v, s.2.2.2)
def CS.lc (s : CS) : Int32 := s.2.2.2.1
def CS.set_lc (s : CS) (v : Int32) : CS := (s.1, s.2.1, s.2.2.1, v, s.2.2.2.2)
def CS.cu (s : CS) : KS := s.2.2.2.2.1
def CS.set_cu (s : CS) (v : KS) : CS := (s.1, s.2.1, s.2.2.1, s.2.2.2.1, v, s.2.2.2.2.2)
def CS.he (s : CS) : KS := s.2.2.2.2.2.1
def CS.set_he (s : CS) (v : KS) : CS := (s.1, s.2.1, s.2.2.1, s.2.2.2.1, s.2.2.2.2.1, v, s.2.2.2.2.2.2)
def CS.sa (s : CS) : Nat → Int64 := s.2.2.2.2.2.2.1
def CS.set_sa (s : CS) (v : Nat → Int64) : CS := (s.1, s.2.1, s.2.2.1, s.2.2.2.1, s.2.2.2.2.1, s.2.2.2.2.2.1, v, s.2.2.2.2.2.2.2)
def CS.sb (s : CS) : Nat → Int64 := s.2.2.2.2.2.2.2.1
def CS.set_sb (s : CS) (v : Nat → Int64) : CS := (s.1, s.2.1, s.2.2.1, s.2.2.2.1, s.2.2.2.2.1, s.2.2.2.2.2.1, s.2.2.2.2.2.2.1, v, s.2.2.2.2.2.2.2.2)
def CS.pl (s : CS) : Nat → Nat → Int32 := s.2.2.2.2.2.2.2.2.1
def CS.set_pl (s : CS) (v : Nat → Nat → Int32) : CS := (s.1, s.2.1, s.2.2.1, s.2.2.2.1, s.2.2.2.2.1, s.2.2.2.2.2.1, s.2.2.2.2.2.2.1, s.2.2.2.2.2.2.2.1, v, s.2.2.2.2.2.2.2.2.2)
def CS.fc (s : CS) : Nat → Int32 := s.2.2.2.2.2.2.2.2.2
def CS.set_fc (s : CS) (v : Nat → Int32) : CS := (s.1, s.2.1, s.2.2.1, s.2.2.2.1, s.2.2.2.2.1, s.2.2.2.2.2.1, s.2.2.2.2.2.2.1, s.2.2.2.2.2.2.2.1, s.2.2.2.2.2.2.2.2.1, v)
abbrev MS : Type := Int32 × Int32 × (Nat → Int32) × Int32 × (Nat → Int64) × (Nat → Int64) × Int32 × (Nat → Int64) × (Nat → Int64) × Int64 × Int64 × Int64 × Int64 × Int32 × Int32
def MS.code (s : MS) : Int32 := s.1
def MS.set_code (s : MS) (v : Int32) : MS := (v, s.2)
def MS.lines (s : MS) : Int32 := s.2.1
def MS.set_lines (s : MS) (v : Int32) : MS := (s.1, v, s.2.2)
def MS.num (s : MS) : Nat → Int32 := s.2.2.1
def MS.set_num (s : MS) (v : Nat → Int32) : MS := (s.1, s.2.1, v, s.2.2.2)
def MS.cuts (s : MS) : Int32 := s.2.2.2.1
def MS.set_cuts (s : MS) (v : Int32) : MS := (s.1, s.2.1, s.2.2.1, v, s.2.2.2.2)
def MS.cu (s : MS) : Nat → Int64 := s.2.2.2.2.1
def MS.set_cu (s : MS) (v : Nat → Int64) : MS := (s.1, s.2.1, s.2.2.1, s.2.2.2.1, v, s.2.2.2.2.2)
def MS.cd (s : MS) : Nat → Int64 := s.2.2.2.2.2.1
def MS.set_cd (s : MS) (v : Nat → Int64) : MS := (s.1, s.2.1, s.2.2.1, s.2.2.2.1, s.2.2.2.2.1, v, s.2.2.2.2.2.2)
def MS.curves (s : MS) : Int32 := s.2.2.2.2.2.2.1
def MS.set_curves (s : MS) (v : Int32) : MS := (s.1, s.2.1, s.2.2.1, s.2.2.2.1, s.2.2.2.2.1, s.2.2.2.2.2.1, v, s.2.2.2.2.2.2.2)
def MS.yu (s : MS) : Nat → Int64 := s.2.2.2.2.2.2.2.1
def MS.set_yu (s : MS) (v : Nat → Int64) : MS := (s.1, s.2.1, s.2.2.1, s.2.2.2.1, s.2.2.2.2.1, s.2.2.2.2.2.1, s.2.2.2.2.2.2.1, v, s.2.2.2.2.2.2.2.2)
def MS.yd (s : MS) : Nat → Int64 := s.2.2.2.2.2.2.2.2.1
def MS.set_yd (s : MS) (v : Nat → Int64) : MS := (s.1, s.2.1, s.2.2.1, s.2.2.2.1, s.2.2.2.2.1, s.2.2.2.2.2.1, s.2.2.2.2.2.2.1, s.2.2.2.2.2.2.2.1, v, s.2.2.2.2.2.2.2.2.2)
def MS.up (s : MS) : Int64 := s.2.2.2.2.2.2.2.2.2.1
def MS.set_up (s : MS) (v : Int64) : MS := (s.1, s.2.1, s.2.2.1, s.2.2.2.1, s.2.2.2.2.1, s.2.2.2.2.2.1, s.2.2.2.2.2.2.1, s.2.2.2.2.2.2.2.1, s.2.2.2.2.2.2.2.2.1, v, s.2.2.2.2.2.2.2.2.2.2)
def MS.down (s : MS) : Int64 := s.2.2.2.2.2.2.2.2.2.2.1
def MS.set_down (s : MS) (v : Int64) : MS := (s.1, s.2.1, s.2.2.1, s.2.2.2.1, s.2.2.2.2.1, s.2.2.2.2.2.1, s.2.2.2.2.2.2.1, s.2.2.2.2.2.2.2.1, s.2.2.2.2.2.2.2.2.1, s.2.2.2.2.2.2.2.2.2.1, v, s.2.2.2.2.2.2.2.2.2.2.2)
def MS.xu (s : MS) : Int64 := s.2.2.2.2.2.2.2.2.2.2.2.1
def MS.set_xu (s : MS) (v : Int64) : MS := (s.1, s.2.1, s.2.2.1, s.2.2.2.1, s.2.2.2.2.1, s.2.2.2.2.2.1, s.2.2.2.2.2.2.1, s.2.2.2.2.2.2.2.1, s.2.2.2.2.2.2.2.2.1, s.2.2.2.2.2.2.2.2.2.1, s.2.2.2.2.2.2.2.2.2.2.1, v, s.2.2.2.2.2.2.2.2.2.2.2.2)
def MS.xd (s : MS) : Int64 := s.2.2.2.2.2.2.2.2.2.2.2.2.1
def MS.set_xd (s : MS) (v : Int64) : MS := (s.1, s.2.1, s.2.2.1, s.2.2.2.1, s.2.2.2.2.1, s.2.2.2.2.2.1, s.2.2.2.2.2.2.1, s.2.2.2.2.2.2.2.1, s.2.2.2.2.2.2.2.2.1, s.2.2.2.2.2.2.2.2.2.1, s.2.2.2.2.2.2.2.2.2.2.1, s.2.2.2.2.2.2.2.2.2.2.2.1, v, s.2.2.2.2.2.2.2.2.2.2.2.2.2)
def MS.strip (s : MS) : Int32 := s.2.2.2.2.2.2.2.2.2.2.2.2.2.1
def MS.set_strip (s : MS) (v : Int32) : MS := (s.1, s.2.1, s.2.2.1, s.2.2.2.1, s.2.2.2.2.1, s.2.2.2.2.2.1, s.2.2.2.2.2.2.1, s.2.2.2.2.2.2.2.1, s.2.2.2.2.2.2.2.2.1, s.2.2.2.2.2.2.2.2.2.1, s.2.2.2.2.2.2.2.2.2.2.1, s.2.2.2.2.2.2.2.2.2.2.2.1, s.2.2.2.2.2.2.2.2.2.2.2.2.1, v, s.2.2.2.2.2.2.2.2.2.2.2.2.2.2)
def MS.place (s : MS) : Int32 := s.2.2.2.2.2.2.2.2.2.2.2.2.2.2
def MS.set_place (s : MS) (v : Int32) : MS := (s.1, s.2.1, s.2.2.1, s.2.2.2.1, s.2.2.2.2.1, s.2.2.2.2.2.1, s.2.2.2.2.2.2.1, s.2.2.2.2.2.2.2.1, s.2.2.2.2.2.2.2.2.1, s.2.2.2.2.2.2.2.2.2.1, s.2.2.2.2.2.2.2.2.2.2.1, s.2.2.2.2.2.2.2.2.2.2.2.1, s.2.2.2.2.2.2.2.2.2.2.2.2.1, s.2.2.2.2.2.2.2.2.2.2.2.2.2.1, v)
/-- the class: its object, the lines' rows -/
def WC1 (h : Nat → Nat) (k : Nat → ClassId) (s : CS) : va_W := [(h 0, .inr (1, [.ref (h 1), .ref (h 2), .ref (h 3), .int (CS.lc s), .ref (h 4), .ref (h 7), .ref (h 10), .ref (h 11), .ref (h 12), .ref (h 13)])), (h 1, .inl (k 1, 6, .inl (CS.a s))), (h 2, .inl (k 2, 6, .inl (CS.b s))), (h 3, .inl (k 3, 6, .inl (CS.c s)))]
def WCr (h : Nat → Nat) (k : Nat → ClassId) (f : Nat → Nat → Int32) : va_W := (List.range 31).map (fun i => (h (i + 14), .inl (k 14, 6, .inl (f i))))
def WC2 (h : Nat → Nat) (k : Nat → ClassId) (s : CS) : va_W := [(h 10, .inl (k 10, 31, .inr (.inl (CS.sa s)))), (h 11, .inl (k 11, 31, .inr (.inl (CS.sb s)))), (h 12, .inl (k 12, 31, .inr (.inr (.inr (.inr (fun i => if i < 31 then some (h (i + 14)) else none)))))), (h 13, .inl (k 13, 32, .inl (CS.fc s)))] ++ WCr h k (CS.pl s)
def WC (h : Nat → Nat) (k : Nat → ClassId) (s : CS) : va_W := WC1 h k s ++ (WK (fun i => h (4 + i)) (fun i => k (4 + i)) (CS.cu s) ++ (WK (fun i => h (7 + i)) (fun i => k (7 + i)) (CS.he s) ++ WC2 h k s))
abbrev YC (k : Nat → ClassId) : List (ClassId × FieldType) := [(k 1, .int), (k 2, .int), (k 3, .int), (k 5, .long), (k 6, .long), (k 8, .long), (k 9, .long), (k 10, .long), (k 11, .long), (k 12, .array .int), (k 13, .int), (k 14, .int)]
def WM (h : Nat → Nat) (k : Nat → ClassId) (s : MS) : va_W := [(h 0, .inr (2, [.int (MS.code s), .int (MS.lines s), .ref (h 1), .int (MS.cuts s), .ref (h 2), .ref (h 3), .int (MS.curves s), .ref (h 4), .ref (h 5), .long (MS.up s), .long (MS.down s), .long (MS.xu s), .long (MS.xd s), .int (MS.strip s), .int (MS.place s)])), (h 1, .inl (k 1, 18, .inl (MS.num s))), (h 2, .inl (k 2, 24, .inr (.inl (MS.cu s)))), (h 3, .inl (k 3, 24, .inr (.inl (MS.cd s)))), (h 4, .inl (k 4, 6, .inr (.inl (MS.yu s)))), (h 5, .inl (k 5, 6, .inr (.inl (MS.yd s))))]
abbrev YM (k : Nat → ClassId) : List (ClassId × FieldType) := [(k 1, .int), (k 2, .long), (k 3, .long), (k 4, .long), (k 5, .long)]
theorem clamp_lt {i : Int32} {n : Nat} (h : vp_in i n) : i.toNatClampNeg < n := Nat.not_le.mp fun q => h (Or.inr q)
theorem wc_row {h : Nat → Nat} {k : Nat → ClassId} {s : CS} {i : Nat} (hi : i < 31) : (WC h k s)[i + 14]? = some (h (i + 14), .inl (k 14, 6, .inl (CS.pl s i))) := by
  show (WCr h k (CS.pl s))[i]? = _
  unfold WCr
  rw [List.getElem?_map, List.getElem?_range hi]
  rfl
theorem wcr_set {h : Nat → Nat} {k : Nat → ClassId} {f : Nat → Nat → Int32} {g : Nat → Int32} {i : Nat} (hi : i < 31) : (WCr h k f).set i (h (i + 14), .inl (k 14, 6, .inl g)) = WCr h k (va_up f i g) := by
  apply List.ext_getElem?
  intro j
  rw [List.getElem?_set]
  unfold WCr
  rw [List.getElem?_map, List.getElem?_map]
  by_cases hj : j < 31
  · rw [List.getElem?_range hj]
    by_cases e : i = j
    · subst e
      simp [va_up, hi]
    · have e' : ¬ j = i := fun q => e q.symm
      simp [va_up, e, e']
  · have hn : (List.range 31)[j]? = none := List.getElem?_eq_none (by rw [List.length_range]; omega)
    rw [hn, if_neg (by omega)]
    rfl
theorem wc_set {h : Nat → Nat} {k : Nat → ClassId} {s : CS} {g : Nat → Int32} {i : Nat} (hi : i < 31) : (WC h k s).set (i + 14) (h (i + 14), .inl (k 14, 6, .inl g)) = WC h k (CS.set_pl s (va_up (CS.pl s) i g)) := by
  have e := wcr_set (h := h) (k := k) (f := CS.pl s) (g := g) hi
  have e2 : (WC h k s).set (i + 14) (h (i + 14), .inl (k 14, 6, .inl g)) = WC1 h k s ++ (WK (fun i => h (4 + i)) (fun i => k (4 + i)) (CS.cu s) ++ (WK (fun i => h (7 + i)) (fun i => k (7 + i)) (CS.he s) ++ ([(h 10, .inl (k 10, 31, .inr (.inl (CS.sa s)))), (h 11, .inl (k 11, 31, .inr (.inl (CS.sb s)))), (h 12, .inl (k 12, 31, .inr (.inr (.inr (.inr (fun i => if i < 31 then some (h (i + 14)) else none)))))), (h 13, .inl (k 13, 32, .inl (CS.fc s)))] ++ (WCr h k (CS.pl s)).set i (h (i + 14), .inl (k 14, 6, .inl g))))) := rfl
  rw [e2, e]
  rfl
theorem va_freeA {A0 : Nat → Prop} {ws : va_W} {H0 H : Heap} {locs : List Loc} (hD : va_D A0 ws) (hS : va_S A0 H0 H locs) (hA : ∀ q, H0.size ≤ q → A0 q) : ∀ q, va_A ws H.size q → A0 q := by
  intro q h
  rcases h with ⟨k, e, h⟩ | h
  · exact hD.2 k _ h
  · exact hA q (Nat.le_trans hS.1 h)
theorem va_D_addr {A : Nat → Prop} {ws ws' : va_W} (h : ws'.map (·.1) = ws.map (·.1)) (hD : va_D A ws) : va_D A ws' := by
  have key : ∀ (i : Nat) (p : Nat × va_E), ws'[i]? = some p → ∃ p0, ws[i]? = some p0 ∧ p0.1 = p.1 := by
    intro i p hp
    have e : (ws.map (·.1))[i]? = some p.1 := by rw [← h, List.getElem?_map, hp]; rfl
    rw [List.getElem?_map] at e
    cases hw : ws[i]? with
    | none => rw [hw] at e; cases e
    | some p0 => rw [hw] at e; exact ⟨p0, rfl, Option.some.inj e⟩
  refine ⟨fun i j p q hp hq e => ?_, fun i p hp => ?_⟩
  · obtain ⟨p0, h1, h2⟩ := key i p hp
    obtain ⟨q0, h3, h4⟩ := key j q hq
    exact hD.1 i j p0 q0 h1 h3 (by rw [h2, h4, e])
  · obtain ⟨p0, h1, h2⟩ := key i p hp
    rw [← h2]
    exact hD.2 i p0 h1
/-- behind a call that had the middle part of a world: the rest as it was -/
theorem va_swap {D : va_G} {cl : List vw_C} {A0 : Nat → Prop} {pre wc w1 post : va_W} {H H1 : Heap} (hP : va_P D cl (pre ++ (wc ++ post)) H) (hD : va_D A0 (pre ++ (wc ++ post))) (hk : ∀ q : Nat, q < H.size → ¬ va_A wc H.size q → H1[q]? = H[q]?) (hP1 : va_P D cl w1 H1) (ha : w1.map (·.1) = wc.map (·.1)) : va_P D cl (pre ++ (w1 ++ post)) H1 ∧ va_D A0 (pre ++ (w1 ++ post)) := by
  have hlen : w1.length = wc.length := by simpa using congrArg List.length ha
  have keep : ∀ (i : Nat) (q : Nat × va_E), (pre ++ (wc ++ post))[i]? = some q → (i < pre.length ∨ pre.length + wc.length ≤ i) → va_at D cl q H1 := by
    intro i q hq hi
    have hl := (hP i q hq).lt
    refine (hP i q hq).kept (hk q.1 hl fun hz => ?_)
    rcases hz with ⟨j, e, hj⟩ | hz
    · have hjl : j < wc.length := (List.getElem?_eq_some_iff.mp hj).1
      have h2 : (pre ++ (wc ++ post))[pre.length + j]? = some (q.1, e) := by
        rw [List.getElem?_append_right (by omega), Nat.add_sub_cancel_left, List.getElem?_append_left hjl]
        exact hj
      have := hD.1 i (pre.length + j) q (q.1, e) hq h2 rfl
      omega
    · omega
  refine ⟨fun i q hq => ?_, va_D_addr (by rw [List.map_append, List.map_append, ha, ← List.map_append, ← List.map_append]) hD⟩
  by_cases h1 : i < pre.length
  · rw [List.getElem?_append_left h1] at hq
    exact keep i q (by rw [List.getElem?_append_left h1]; exact hq) (Or.inl h1)
  · rw [List.getElem?_append_right (by omega)] at hq
    by_cases h2 : i - pre.length < w1.length
    · rw [List.getElem?_append_left h2] at hq
      exact hP1 _ q hq
    · rw [List.getElem?_append_right (by omega)] at hq
      refine keep i q ?_ (Or.inr (by omega))
      rw [List.getElem?_append_right (by omega), List.getElem?_append_right (by omega), ← hlen]
      exact hq
section GRD
variable {p : Program} {l : Launch} {e : Env} {R : Room} {s : State} {m : MethodId} {args : Array Value} {below : List Frame} {meth : Method} {c : Code} {H : Heap} {locs : List Loc} {cells slots : Nat} {Q : State → Prop}
variable {cc : ByteArray} {pc : Nat} {ls : Array Slot} {rest : List Value} {D : va_G} {cl : List vw_C} {a : Nat} {tys : List (ClassId × FieldType)} {ws : va_W}
theorem va_aldC (hexec : p.tables.exec = Jvm.exec) (hb : c.code = cc) (hK : va_K D cl tys s) (hP : va_P D cl ws H) (q0 t0 : Nat) {cA : ClassId} {t : FieldType} {n : Nat} {r : Nat → Nat} (ha : ws[q0]? = some (a, .inl (cA, n, .inr (.inr (.inr (.inr (fun i => if i < n then some (r i) else none))))))) (ht : tys[t0]? = some (cA, .array t)) {i : Int32} (hin : vp_in i n) (hdg : decode cc pc = .ok (.aaload, 1))
    (kk : W p l e R s m args below meth c H locs cells slots Q (F0 m (pc + 1) ls (.ref (r i.toNatClampNeg) :: rest))) : W p l e R s m args below meth c H locs cells slots Q (F0 m pc ls (.int i :: .ref a :: rest)) := by
  have hlt : i.toNatClampNeg < n := clamp_lt hin
  have ev : va_rf (if i.toNatClampNeg < n then some (r i.toNatClampNeg) else none) = .ref (r i.toNatClampNeg) := by rw [if_pos hlt]; rfl
  exact W.aald (v := .ref (r i.toNatClampNeg)) (ty := .array t) hexec hb (hP q0 _ ha) ((hK.2 t0 _ ht).1 n (fun j => va_rf (if j < n then some (r j) else none))) rfl (fun q => by cases q) (by show ¬ (i < 0 ∨ (arrV _ _ _).slots.size ≤ _); rw [arrV_size]; exact hin) (by show (arrV _ _ _).slots[_]? = _; rw [arrV_read _ _ hlt, ev]) rfl rfl hdg kk
end GRD
