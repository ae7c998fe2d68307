/-! by hand: sign, find -/
/-- the sign of line k in cell p of strip s -/
def sgC (a b c : Nat → Int) (n s p k : Nat) : Int := sg (sgV a b c (smp (cutI a b c n) s) (smp (crv a b c n s) p) k)
theorem sg_vals (z : Int) : sg z = 1 ∨ sg z = 0 ∨ sg z = -1 := by
  unfold sg
  split
  · exact Or.inl rfl
  · split
    · exact Or.inr (Or.inr rfl)
    · exact Or.inr (Or.inl rfl)
theorem c_signOf {post : Int32 → Prop} {x : Int} (hx : inL x) (h : post (jI (sg x))) : w_C_signOf post (jL x) := by
  unfold w_C_signOf
  unfold sg at h
  rw [jL_0, jL_eq hx (by omega), jL_le hx (by omega)]
  refine ⟨fun q => ⟨fun z => ?_, fun z => ?_⟩, fun q => ?_⟩
  · rw [if_neg (by omega), if_pos (by omega)] at h; exact h
  · rw [if_pos (by omega)] at h; exact h
  · rw [if_neg (by omega), if_neg (by omega)] at h; exact h
theorem cutC {n : Nat} {a b c : Nat → Int} (hl : lok n a b c) : fup (cutI a b c n) := (cut_ok hl n (Nat.le_refl n)).1
theorem c_signIn {st : CS} {post : Int32 → Prop} {n s p k : Nat} {a b c : Nat → Int} (hi : cInv st n a b c) (hs : s ≤ 2 * (cutI a b c n).length) (hp : p ≤ 2 * (crv a b c n s).length) (hk : k < n) (h : post (jI (sgC a b c n s p k))) : w_C_signIn st post (nI s) (nI p) (nI k) := by
  obtain ⟨hl, hc, hst, -⟩ := hi
  obtain ⟨hlc, hn, hlok, hcell⟩ := hl
  have h15 := hc.2.1
  obtain ⟨e1, e2, e3⟩ := hcell k hk
  obtain ⟨l1, l2, l3, l4⟩ := hlok k hk
  obtain ⟨s1, s2, s3⟩ := hst s hs
  have hC := cutC hlok
  have hx := smp_sm (cutI_sm hlok n (Nat.le_refl n)) s hs
  obtain ⟨x1, x2, x3⟩ := hx
  have hlen : (crv a b c n s).length ≤ n := hts_len a b c _ n
  obtain ⟨hup, hin⟩ := hts_ok (a := a) (b := b) (c := c) (x := smp (cutI a b c n) s) x2 n
  have hy := (smp_fok (L := crv a b c n s) hup hp).1
  unfold w_C_signIn
  refine ⟨vp_in_nI (by omega) (by decide), ?_⟩
  rw [nI_clamp (show k < 2 ^ 31 by omega), nI_clamp (show s < 2 ^ 31 by omega), e1, e2, e3, s1, s2, s3 k hk, jI_0, jI_eq (show inI (b k) by omega) (show inI 0 by omega), jI_le (show inI (b k) by omega) (show inI 0 by omega)]
  refine ⟨fun hb => ⟨vp_in_nI (by omega) (by decide), ?_⟩, fun hb => ⟨vp_in_nI (by omega) (by decide), ?_⟩⟩
  · unfold plc
    rw [if_neg hb, ← jI_nI, ← jI_nI, jI_sub]
    have hf := fpc_lt (hgt a b c (smp (cutI a b c n) s) k) (crv a b c n s)
    rw [jI_l (by omega)]
    refine c_signOf (by omega) ?_
    have hsg : sgC a b c n s p k = _ := sg_hgt (a := a) (b := b) (c := c) (x := smp (cutI a b c n) s) (y := smp (crv a b c n s) p) (k := k) x2 hy hb
    rw [sg_place (L := crv a b c n s) hup hp (hin k hk hb)] at hsg
    rw [hsg] at h
    refine ⟨fun q => ?_, fun q => ?_⟩
    · rw [if_neg (by omega)] at h; rw [jI_neg]; exact h
    · rw [if_pos (by omega)] at h; exact h
  · rw [jI_l (by omega), jI_l (by omega), jL_mul, jL_mul, jL_add]
    have p1 := mulb (a := a k) (b := (smp (cutI a b c n) s).1) (M := 6) (N := 10400) l1 (by omega) (by omega)
    have p2 := mulb (a := c k) (b := (smp (cutI a b c n) s).2) (M := 6) (N := 10400) l3 (by omega) (by omega)
    have hsg : sgC a b c n s p k = sg (a k * (smp (cutI a b c n) s).1 + c k * (smp (cutI a b c n) s).2) := by
      unfold sgC
      refine (sg_eq hy ?_).symm
      unfold sgV
      rw [hb]
      grind
    rw [hsg] at h
    exact c_signOf (by omega) h
def sp_sign (a b c : Nat → Int) (n : Nat) (x k : Int32) : Nat × Int :=
  if (0 ≤ x.toInt ∧ x.toInt < tot a b c n) ∧ (0 ≤ k.toInt ∧ k.toInt < n) then (0, sgC a b c n (sof a b c n x.toInt.toNat) (x.toInt.toNat - fst' a b c n (sof a b c n x.toInt.toNat)) k.toInt.toNat) else (1, 0)
theorem c_sign {st : CS} {post : Int32 → CS → Prop} {px : String → CS → Prop} {x k : Int32} {n : Nat} {a b c : Nat → Int} (hi : cInv st n a b c)
    (h0 : (sp_sign a b c n x k).1 = 0 → post (jI (sp_sign a b c n x k).2) st) (h1 : (sp_sign a b c n x k).1 = 1 → px eIO st) : w_C_sign st post px x k := by
  have hc := hi.2.1
  have h15 := hc.2.1
  have hn := hi.1.2.1
  have ht : tot a b c n < 1000 := tot_lt hc hn (Nat.le_refl _)
  unfold w_C_sign
  refine c_isCell hi (fun y hy e => ⟨fun _ => ?_, fun z => absurd z (by decide)⟩) (fun z => ⟨fun q => absurd rfl q, fun _ => h1 (by unfold sp_sign; rw [if_neg (fun w => notCell (by omega) z w.1)])⟩)
  subst e
  refine c_isLine hi.1 (fun j hj e => ⟨fun _ => ?_, fun z => absurd z (by decide)⟩) (fun z => ⟨fun q => absurd rfl q, fun _ => h1 (by unfold sp_sign; rw [if_neg (fun w => notCell (by omega) z w.2)])⟩)
  subst e
  obtain ⟨s1, s2, s3⟩ := sof_ok hy
  unfold sp_sign at h0
  rw [if_pos ⟨isCellI hy (by omega), isCellI hj (by omega)⟩, nI_tn (by omega), nI_tn (by omega)] at h0
  refine c_stripOf hi hy ⟨vp_in_nI (by omega) (by decide), ?_⟩
  rw [nI_clamp (by omega), hi.2.2.2 _ (by omega), pk_sub s2]
  exact c_signIn hi s1 (by rw [fst'] at s3; omega) hj (h0 rfl)
/-! find -/
/-- what is wanted of a line, and its sign -/
abbrev mt (w : Int32) (g : Int) : Prop := w = 0 ∨ (w = 1 ∧ g = 1) ∨ (w = 2 ∧ g = -1) ∨ (w = 3 ∧ g = 0)
def wnt (v : Int32) (k : Nat) : Int32 := (v >>> ((nI (2 * k)) &&& 31)) &&& 3
def okK (a b c : Nat → Int) (n s p : Nat) (v : Int32) : Nat → Nat → Bool
  | 0, _ => true
  | m + 1, k => if mt (wnt v k) (sgC a b c n s p k) then okK a b c n s p v m (k + 1) else false
def fndP (a b c : Nat → Int) (n s : Nat) (v : Int32) : Nat → Nat → Option Nat
  | 0, _ => none
  | m + 1, p => if okK a b c n s p v n 0 = true then some (fst' a b c n s + p) else fndP a b c n s v m (p + 1)
def fndS (a b c : Nat → Int) (n : Nat) (v : Int32) : Nat → Nat → Option Nat
  | 0, _ => none
  | m + 1, s => match fndP a b c n s v (2 * (crv a b c n s).length + 1) 0 with
    | some x => some x
    | none => fndS a b c n v m (s + 1)
def sp_find (a b c : Nat → Int) (n : Nat) (v : Int32) : Int32 := match fndS a b c n v (2 * (cutI a b c n).length + 1) 0 with
  | some x => nI x
  | none => -1
theorem wnt_4 (v : Int32) (k : Nat) : wnt v k = 0 ∨ wnt v k = 1 ∨ wnt v k = 2 ∨ wnt v k = 3 := by
  obtain ⟨j, hj, e⟩ := pk_andE (v >>> ((nI (2 * k)) &&& 31)) (m := 3) 2 (by decide)
  have e' : wnt v k = nI j := e
  rw [e']
  have : j = 0 ∨ j = 1 ∨ j = 2 ∨ j = 3 := by omega
  rcases this with rfl | rfl | rfl | rfl
  · exact Or.inl rfl
  · exact Or.inr (Or.inl rfl)
  · exact Or.inr (Or.inr (Or.inl rfl))
  · exact Or.inr (Or.inr (Or.inr rfl))
theorem hs_loop {st : CS} {post : Int32 → Prop} {n s p : Nat} {a b c : Nat → Int} {v : Int32} (hi : cInv st n a b c) (hs : s ≤ 2 * (cutI a b c n).length) (hp : p ≤ 2 * (crv a b c n s).length) : ∀ m k, k + m = n → post (if okK a b c n s p v m k = true then 1 else 0) → w_C_hasSigns_3 st post (m + 1) (nI s) (nI p) v (nI k) := by
  have hlc := hi.1.1
  have hn := hi.1.2.1
  intro m
  induction m with
  | zero =>
    intro k hk h
    rw [w_C_hasSigns_3, hlc]
    have e : k = n := by omega
    subst e
    exact ⟨fun _ => h, fun z => absurd (nI_le (Nat.le_refl k) (by omega)) z⟩
  | succ m ih =>
    intro k hk h
    rw [w_C_hasSigns_3, hlc]
    refine ⟨fun z => absurd z (nI_ge (by omega) (by omega)), fun _ y hy => ?_⟩
    have e2 : (2 : Int32) * nI k = nI (2 * k) := pk_mul 2 _
    rw [e2] at hy
    have hy' : y = wnt v k := hy
    subst hy'
    rw [nI_1]
    rw [okK] at h
    refine ⟨fun z => ?_, fun z => ?_⟩
    · rw [if_pos (Or.inl z)] at h
      exact ih (k + 1) (by omega) h
    · refine c_signIn hi hs hp (by omega) ?_
      unfold w_C_wantFor
      have hv : sgC a b c n s p k = 1 ∨ sgC a b c n s p k = 0 ∨ sgC a b c n s p k = -1 := sg_vals _
      have hw := wnt_4 v k
      have fin : ∀ r : Int32, (mt (wnt v k) (sgC a b c n s p k) ↔ wnt v k = r) → ((wnt v k = r → w_C_hasSigns_3 st post (m + 1) (nI s) (nI p) v (nI (k + 1))) ∧ (¬ wnt v k = r → post 0)) := by
        intro r hr
        refine ⟨fun w => ?_, fun w => ?_⟩
        · rw [if_pos (hr.mpr w)] at h
          exact ih (k + 1) (by omega) h
        · rw [if_neg (fun y => w (hr.mp y))] at h
          exact h
      rcases hv with hv | hv | hv <;> rw [hv] at fin ⊢
      · refine ⟨fun _ => ⟨fun w => absurd w (by decide), fun _ => fin 1 ?_⟩, fun w => absurd w (by decide)⟩
        exact ⟨fun q => by rcases q with q | q | q | q; exact absurd q z; exact q.1; exact absurd q.2 (by decide); exact absurd q.2 (by decide), fun q => Or.inr (Or.inl ⟨q, rfl⟩)⟩
      · refine ⟨fun w => absurd rfl w, fun _ => fin 3 ?_⟩
        exact ⟨fun q => by rcases q with q | q | q | q; exact absurd q z; exact absurd q.2 (by decide); exact absurd q.2 (by decide); exact q.1, fun q => Or.inr (Or.inr (Or.inr ⟨q, rfl⟩))⟩
      · refine ⟨fun _ => ⟨fun _ => fin 2 ?_, fun w => absurd (by decide) w⟩, fun w => absurd w (by decide)⟩
        exact ⟨fun q => by rcases q with q | q | q | q; exact absurd q z; exact absurd q.2 (by decide); exact q.1; exact absurd q.2 (by decide), fun q => Or.inr (Or.inr (Or.inl ⟨q, rfl⟩))⟩
theorem fp_loop {st : CS} {post : Int32 → Prop} {K : Int32 → Int32 → Int32 → Prop} {n s : Nat} {a b c : Nat → Int} {v S : Int32} (hi : cInv st n a b c) (hs : s ≤ 2 * (cutI a b c n).length) : ∀ m p, p + m = 2 * (crv a b c n s).length + 1 → (∀ x, fndP a b c n s v m p = some x → post (nI x)) → (fndP a b c n s v m p = none → K v S (nI (s + 1))) → w_C_find_22 st post K (m + 1) v S (nI s) (nI (2 * (crv a b c n s).length + 1)) (nI p) := by
  have h15 := hi.2.1.2.1
  have hn := hi.1.2.1
  have hlen : (crv a b c n s).length ≤ n := hts_len a b c _ n
  intro m
  induction m with
  | zero =>
    intro p hp h1 h2
    rw [w_C_find_22]
    refine ⟨fun _ => ?_, fun z => absurd (nI_le (by omega) (by omega)) z⟩
    rw [nI_1]
    exact h2 rfl
  | succ m ih =>
    intro p hp h1 h2
    rw [w_C_find_22]
    refine ⟨fun z => absurd z (nI_ge (by omega) (by omega)), fun _ => ?_⟩
    unfold w_C_hasSigns
    refine ⟨n + 1, hs_loop hi hs (by omega) n 0 (by omega) ?_⟩
    rw [fndP] at h1 h2
    by_cases q : okK a b c n s p v n 0 = true
    · rw [if_pos q] at h1 h2 ⊢
      refine ⟨fun z => absurd z (by decide), fun _ => ⟨vp_in_nI (by omega) (by decide), ?_⟩⟩
      rw [nI_clamp (by omega), hi.2.2.2 _ (by omega), nI_add]
      exact h1 _ rfl
    · rw [if_neg q] at h1 h2 ⊢
      refine ⟨fun _ => ?_, fun z => absurd rfl z⟩
      rw [nI_1]
      exact ih (p + 1) (by omega) h1 h2
theorem fs_loop {st : CS} {post : Int32 → Prop} {n : Nat} {a b c : Nat → Int} {v : Int32} (hi : cInv st n a b c) : ∀ m s, s + m = 2 * (cutI a b c n).length + 1 → post (match fndS a b c n v m s with | some x => nI x | none => -1) → w_C_find_7 st post (m + 1) v (nI (2 * (cutI a b c n).length + 1)) (nI s) := by
  have h15 := hi.2.1.2.1
  intro m
  induction m with
  | zero =>
    intro s hs h
    rw [w_C_find_7]
    exact ⟨fun _ => h, fun z => absurd (nI_le (by omega) (by omega)) z⟩
  | succ m ih =>
    intro s hs h
    rw [w_C_find_7]
    refine ⟨fun z => absurd z (nI_ge (by omega) (by omega)), fun _ => ?_⟩
    refine c_cellsOf hi (by omega) ⟨2 * (crv a b c n s).length + 1 + 1, ?_⟩
    rw [fndS] at h
    refine fp_loop hi (by omega) (2 * (crv a b c n s).length + 1) 0 (by omega) (fun x hx => ?_) (fun hx => ?_)
    · rw [hx] at h; exact h
    · rw [hx] at h; exact ih (s + 1) (by omega) h
theorem c_find {st : CS} {post : Int32 → Prop} {n : Nat} {a b c : Nat → Int} {v : Int32} (hi : cInv st n a b c) (h : post (sp_find a b c n v)) : w_C_find st post v := by
  unfold w_C_find
  exact c_sc hi.2.1 ⟨2 * (cutI a b c n).length + 1 + 1, fs_loop hi _ 0 (by omega) h⟩
