/-! by hand: touch -/
/-- the place of line k in strip s, as a whole number -/
def pli (a b c : Nat → Int) (n s k : Nat) : Int := if b k = 0 then -1 else ((fpc (hgt a b c (smp (cutI a b c n) s) k) (crv a b c n s) : Nat) : Int)
theorem plc_i (a b c : Nat → Int) (n s k : Nat) : plc a b c n s k = jI (pli a b c n s k) := by
  unfold plc pli
  split
  · rfl
  · rw [jI_nI]
/-- cell p of strip s comes near cell q of the cut t: no line from k on stands between -/
def rchK (a b c : Nat → Int) (n s p t q : Nat) : Nat → Nat → Bool
  | 0, _ => true
  | m + 1, k => if sg (q - pli a b c n t k) = 0 ∨ sg (q - pli a b c n t k) = sg (p - pli a b c n s k) then rchK a b c n s p t q m (k + 1) else false
theorem pli_b {a b c : Nat → Int} {n s k : Nat} : -1 ≤ pli a b c n s k ∧ pli a b c n s k ≤ 2 * n := by
  unfold pli
  have h := fpc_lt (hgt a b c (smp (cutI a b c n) s) k) (crv a b c n s)
  have h2 : (crv a b c n s).length ≤ n := hts_len a b c _ n
  split <;> omega
theorem re_loop {st : CS} {post : Int32 → Prop} {n s p t q : Nat} {a b c : Nat → Int} (hi : cInv st n a b c) (hs : s ≤ 2 * (cutI a b c n).length) (ht : t ≤ 2 * (cutI a b c n).length) (hp : p < 1000) (hq : q < 1000) : ∀ m k, k + m = n → post (if rchK a b c n s p t q m k = true then 1 else 0) → w_C_reaches_3 st post (m + 1) (nI s) (nI p) (nI t) (nI q) (nI k) := by
  obtain ⟨⟨hlc, hn, hlok, hcell⟩, hc, hst, -⟩ := hi
  have h15 := hc.2.1
  intro m
  induction m with
  | zero =>
    intro k hk h
    rw [w_C_reaches_3, hlc]
    have e : k = n := by omega
    subst e
    exact ⟨fun _ => h, fun z => absurd (nI_le (Nat.le_refl k) (by omega)) z⟩
  | succ m ih =>
    intro k hk h
    rw [w_C_reaches_3, hlc]
    refine ⟨fun z => absurd z (nI_ge (by omega) (by omega)), fun _ => ⟨vp_in_nI (by omega) (by decide), vp_in_nI (by omega) (by decide), ?_⟩⟩
    rw [nI_clamp (show k < 2 ^ 31 by omega), nI_clamp (show s < 2 ^ 31 by omega), nI_clamp (show t < 2 ^ 31 by omega), (hst s hs).2.2 k (by omega), (hst t ht).2.2 k (by omega), plc_i, plc_i, ← jI_nI p, ← jI_nI q, nI_1]
    have b1 := pli_b (a := a) (b := b) (c := c) (n := n) (s := s) (k := k)
    have b2 := pli_b (a := a) (b := b) (c := c) (n := n) (s := t) (k := k)
    rw [jI_sub, jI_sub, jI_l (by omega), jI_l (by omega)]
    refine c_signOf (by omega) ⟨vp_in_nI (by omega) (by decide), c_signOf (by omega) ?_⟩
    have v1 := sg_vals ((p : Int) - pli a b c n s k)
    have v2 := sg_vals ((q : Int) - pli a b c n t k)
    rw [rchK] at h
    rw [jI_nI, jI_nI]
    rw [jI_0, jI_eq (by omega) (by omega), jI_eq (by omega) (by omega)]
    refine ⟨fun z => ?_, fun z => ⟨fun y => ?_, fun y => ?_⟩⟩
    · rw [if_pos (Or.inl z)] at h
      exact ih (k + 1) (by omega) h
    · rw [if_pos (Or.inr y)] at h
      exact ih (k + 1) (by omega) h
    · have hn' : ¬ (sg ((q : Int) - pli a b c n t k) = 0 ∨ sg ((q : Int) - pli a b c n t k) = sg ((p : Int) - pli a b c n s k)) := fun w => w.elim z y
      rw [if_neg hn'] at h
      exact h
theorem c_reaches {st : CS} {post : Int32 → Prop} {n s p t q : Nat} {a b c : Nat → Int} (hi : cInv st n a b c) (hs : s ≤ 2 * (cutI a b c n).length) (ht : t ≤ 2 * (cutI a b c n).length) (hp : p < 1000) (hq : q < 1000) (h : post (if rchK a b c n s p t q n 0 = true then 1 else 0)) : w_C_reaches st post (nI s) (nI p) (nI t) (nI q) := by
  unfold w_C_reaches
  exact ⟨n + 1, re_loop hi hs ht hp hq n 0 (by omega) h⟩
/-- whether cell p of strip s and cell q of strip t touch -/
def tch (a b c : Nat → Int) (n s p t q : Nat) : Bool :=
  if s = t then decide (p ≤ q + 1 ∧ q ≤ p + 1)
  else if s = t + 1 ∨ t = s + 1 then (if s % 2 = 1 then rchK a b c n t q s p n 0 else rchK a b c n s p t q n 0)
  else false
def sp_touch (a b c : Nat → Int) (n : Nat) (x y : Int32) : Nat × Int :=
  if (0 ≤ x.toInt ∧ x.toInt < tot a b c n) ∧ (0 ≤ y.toInt ∧ y.toInt < tot a b c n) then
    (0, if tch a b c n (sof a b c n x.toInt.toNat) (x.toInt.toNat - fst' a b c n (sof a b c n x.toInt.toNat)) (sof a b c n y.toInt.toNat) (y.toInt.toNat - fst' a b c n (sof a b c n y.toInt.toNat)) = true then 1 else 0)
  else (1, 0)
theorem absI {x y : Nat} (hx : x < 100000) (hy : y < 100000) : (if 0 ≤ (nI x - nI y) then (nI x - nI y) else 0 - (nI x - nI y)) = jI (((x : Int) - y).natAbs : Nat) := by
  rw [← jI_nI, ← jI_nI, jI_sub]
  by_cases q : (0 : Int) ≤ x - y
  · rw [if_pos (by rw [jI_0, jI_le (by omega) (by omega)]; exact q)]
    congr 1; omega
  · rw [if_neg (by rw [jI_0, jI_le (by omega) (by omega)]; exact q), jI_0, jI_sub]
    congr 1; omega
theorem nrw (v : Bool) : narrow .boolean (.int (if v = true then 1 else 0)) = .int (if v = true then 1 else 0) := by
  cases v <;> rfl
theorem c_touch {st : CS} {post : Int32 → CS → Prop} {px : String → CS → Prop} {x y : Int32} {n : Nat} {a b c : Nat → Int} (hi : cInv st n a b c)
    (h0 : (sp_touch a b c n x y).1 = 0 → post (jI (sp_touch a b c n x y).2) st) (h1 : (sp_touch a b c n x y).1 = 1 → px eIO st) : w_C_touch st post px x y := by
  have hc := hi.2.1
  have h15 := hc.2.1
  have hn := hi.1.2.1
  have ht : tot a b c n < 1000 := tot_lt hc hn (Nat.le_refl _)
  unfold w_C_touch
  refine c_isCell hi (fun x' hx e => ⟨fun z => absurd z (by decide), fun _ => ?_⟩) (fun z => ⟨fun _ => h1 (by unfold sp_touch; rw [if_neg (fun w => notCell (by omega) z w.1)]), fun q => absurd rfl q⟩)
  subst e
  refine c_isCell hi (fun y' hy e => ⟨fun _ => ?_, fun z => absurd z (by decide)⟩) (fun z => ⟨fun q => absurd rfl q, fun _ => h1 (by unfold sp_touch; rw [if_neg (fun w => notCell (by omega) z w.2)])⟩)
  subst e
  obtain ⟨s1, s2, s3⟩ := sof_ok hx
  obtain ⟨t1, t2, t3⟩ := sof_ok hy
  unfold sp_touch at h0
  rw [if_pos ⟨isCellI hx (by omega), isCellI hy (by omega)⟩, nI_tn (by omega), nI_tn (by omega)] at h0
  have h0 := h0 rfl
  have hpost : ∀ v : Bool, tch a b c n (sof a b c n x') (x' - fst' a b c n (sof a b c n x')) (sof a b c n y') (y' - fst' a b c n (sof a b c n y')) = v → post (if v = true then 1 else 0) st := by
    intro v hv
    simp only [] at h0
    rw [hv] at h0
    cases v <;> exact h0
  refine c_stripOf hi hx (c_stripOf hi hy ⟨vp_in_nI (by omega) (by decide), fun y8 h8 => ⟨vp_in_nI (by omega) (by decide), fun y10 h10 => ?_⟩⟩)
  rw [nI_clamp (by omega), hi.2.2.2 _ (by omega), pk_sub s2] at h8
  rw [nI_clamp (by omega), hi.2.2.2 _ (by omega), pk_sub t2] at h10
  subst h8 h10
  have pb : x' - fst' a b c n (sof a b c n x') < 1000 := by omega
  have qb : y' - fst' a b c n (sof a b c n y') < 1000 := by omega
  generalize x' - fst' a b c n (sof a b c n x') = p at *
  generalize y' - fst' a b c n (sof a b c n y') = q at *
  generalize sof a b c n x' = s at *
  generalize sof a b c n y' = t at *
  rw [absI (by omega) (by omega), absI (by omega) (by omega), nI_eq (by omega) (by omega), jI_1, jI_eq (by omega) (by omega), jI_lt (by omega) (by omega)]
  have er : nI s - nI s / 2 * 2 = nI (s % 2) := pk_rem (d := 2) (by omega) (by decide) (by decide)
  rw [er, show jI 1 = nI 1 from rfl, nI_eq (by omega) (by omega)]
  unfold tch at hpost
  refine ⟨fun z => ⟨fun w => ⟨fun o => ?_, fun o => ?_⟩, fun w => ?_⟩, fun z => ⟨fun w => ?_, fun w => ?_⟩⟩
  · refine c_reaches hi s1 t1 pb qb ⟨nrw _, hpost _ ?_⟩
    rw [if_neg z, if_pos (by omega), if_neg o]
  · refine c_reaches hi t1 s1 qb pb ⟨nrw _, hpost _ ?_⟩
    rw [if_neg z, if_pos (by omega), if_pos o]
  · refine hpost false ?_
    rw [if_neg z, if_neg (by omega)]
  · refine hpost false ?_
    rw [if_pos z]
    exact decide_eq_false (by omega)
  · refine hpost true ?_
    rw [if_pos z]
    exact decide_eq_true (by omega)
