/-! lines at an open strip and at the cut beside it -/
theorem inF_ins {x y : Fr} {L : List Fr} (h : inF x (fins y L)) : x = y ∨ inF x L := by
  obtain ⟨k, hk, e⟩ := h
  by_cases c : fpos y L < L.length ∧ fg L (fpos y L) = y
  · rw [fins_in c.1 c.2] at hk e
    exact Or.inr ⟨k, hk, e⟩
  · obtain ⟨n1, n2⟩ := fins_new c
    have hp := fpos_le y L
    rw [n2 k] at e
    by_cases q : k < fpos y L
    · rw [if_pos q] at e
      exact Or.inr ⟨k, by omega, e⟩
    · rw [if_neg q] at e
      by_cases q2 : k = fpos y L
      · rw [if_pos q2] at e
        exact Or.inl e.symm
      · rw [if_neg q2] at e
        exact Or.inr ⟨k - 1, by omega, e⟩
/-- every curve is a line's -/
theorem hts_src {a b c : Nat → Int} {x : Fr} : ∀ n y, inF y (hts a b c x n) → ∃ k, k < n ∧ b k ≠ 0 ∧ hgt a b c x k = y
  | 0, y, h => by
    obtain ⟨k, hk, -⟩ := h
    rw [hts] at hk
    exact absurd hk (Nat.not_lt_zero k)
  | n + 1, y, h => by
    rw [hts] at h
    by_cases hb : b n = 0
    · rw [if_pos hb] at h
      obtain ⟨k, h1, h2, h3⟩ := hts_src n y h
      exact ⟨k, by omega, h2, h3⟩
    · rw [if_neg hb] at h
      rcases inF_ins h with e | e
      · exact ⟨n, by omega, hb, e.symm⟩
      · obtain ⟨k, h1, h2, h3⟩ := hts_src n y e
        exact ⟨k, by omega, h2, h3⟩
/-- every crossing is a cut -/
theorem cutJ_keep {a b c : Nat → Int} {i : Nat} {x : Fr} {L : List Fr} (h : inF x L) : ∀ j, inF x (cutJ a b c i j L)
  | 0 => h
  | j + 1 => by
    rw [cutJ]
    split
    · exact cutJ_keep h j
    · exact inF_keep (cutJ_keep h j)
theorem cutJ_in {a b c : Nat → Int} {i k : Nat} {L : List Fr} (hd : ¬ a i * b k - a k * b i = 0) : ∀ j, k < j → inF (fred (b i * c k - b k * c i) (a i * b k - a k * b i)) (cutJ a b c i j L)
  | 0, h => absurd h (Nat.not_lt_zero k)
  | j + 1, h => by
    rw [cutJ]
    by_cases e : k = j
    · subst e
      rw [if_neg hd]
      exact inF_self _ _
    · have := cutJ_in (L := L) (a := a) (b := b) (c := c) hd j (by omega)
      split
      · exact this
      · exact inF_keep this
theorem cutI_keep {a b c : Nat → Int} {x : Fr} {i : Nat} (h : inF x (cutI a b c i)) : inF x (cutI a b c (i + 1)) := by
  rw [cutI]
  split
  · exact cutJ_keep (inF_keep h) _
  · exact cutJ_keep h _
theorem cutI_in {a b c : Nat → Int} {i k : Nat} (hk : k < i) (hd : ¬ a i * b k - a k * b i = 0) : ∀ n, i < n → inF (fred (b i * c k - b k * c i) (a i * b k - a k * b i)) (cutI a b c n)
  | 0, h => absurd h (Nat.not_lt_zero i)
  | n + 1, h => by
    by_cases e : i = n
    · subst e
      rw [cutI]
      split
      · exact cutJ_in hd _ hk
      · exact cutJ_in hd _ hk
    · exact cutI_keep (cutI_in hk hd n (by omega))
theorem cross_in {a b c : Nat → Int} {n i j : Nat} (hi : i < n) (hj : j < n) (hd : ¬ a i * b j - a j * b i = 0) : inF (fred (b i * c j - b j * c i) (a i * b j - a j * b i)) (cutI a b c n) := by
  rcases Nat.lt_trichotomy i j with q | q | q
  · have h := cutI_in (a := a) (b := b) (c := c) q (by omega) n hj
    have e : fred (b i * c j - b j * c i) (a i * b j - a j * b i) = fred (b j * c i - b i * c j) (a j * b i - a i * b j) := fred_eq hd (by omega) (by grind)
    rw [e]; exact h
  · subst q; omega
  · exact cutI_in q hd n hi
/-- which of two lines is the lower one at x -/
theorem gH {a b c : Nat → Int} {x : Fr} {i j : Nat} (hx : 0 < x.2) (hi : b i ≠ 0) (hj : b j ≠ 0) : flt (hgt a b c x j) (hgt a b c x i) ↔ b i * b j * ((a i * b j - a j * b i) * x.1 + (c i * b j - b i * c j) * x.2) < 0 := by
  obtain ⟨h1, h2⟩ := hgt_spec (a := a) (c := c) hx hi
  obtain ⟨g1, g2⟩ := hgt_spec (a := a) (c := c) hx hj
  unfold flt
  generalize hgt a b c x i = u at *
  generalize hgt a b c x j = v at *
  have hN : b i * b j ≠ 0 := fun q => by rcases Int.mul_eq_zero.mp q with z | z <;> contradiction
  have hP : 0 < b i * b j * (b i * b j) * x.2 := Int.mul_pos (by
    rcases Int.lt_or_gt_of_ne hN with q | q
    · exact Int.mul_pos_of_neg_of_neg q q
    · exact Int.mul_pos q q) hx
  have hQ : 0 < u.2 * v.2 := Int.mul_pos h2 g2
  have key : (v.1 * u.2 - u.1 * v.2) * (b i * b j * (b i * b j) * x.2) = (b i * b j * ((a i * b j - a j * b i) * x.1 + (c i * b j - b i * c j) * x.2)) * (u.2 * v.2) := by
    have e1 : (v.1 * u.2 - u.1 * v.2) * (b i * b j * (b i * b j) * x.2) = b i * b j * ((v.1 * (b j * x.2)) * u.2 * b i - (u.1 * (b i * x.2)) * v.2 * b j) := by grind
    rw [e1, h1, g1]
    grind
  have s1 := sg_eq hP key
  have s2 := sg_eq (z := b i * b j * ((a i * b j - a j * b i) * x.1 + (c i * b j - b i * c j) * x.2)) hQ rfl
  have s3 := s1.trans s2.symm
  generalize b i * b j * ((a i * b j - a j * b i) * x.1 + (c i * b j - b i * c j) * x.2) = G at *
  have e : v.1 * u.2 < u.1 * v.2 ↔ v.1 * u.2 - u.1 * v.2 < 0 := by omega
  rw [e]
  generalize v.1 * u.2 - u.1 * v.2 = w at *
  unfold sg at s3
  constructor
  · intro q
    rw [if_neg (by omega), if_pos q] at s3
    split at s3
    · omega
    · split at s3 <;> omega
  · intro q
    rw [if_neg (show ¬ 0 < G by omega), if_pos q] at s3
    split at s3
    · omega
    · split at s3 <;> omega
/-- the order at an open strip is not turned round at the cut beside it -/
theorem ord_keep {n : Nat} {a b c : Nat → Int} {s t i j : Nat} (hl : lok n a b c) (hi : i < n) (hj : j < n) (bi : b i ≠ 0) (bj : b j ≠ 0) (hs : s ≤ 2 * (cutI a b c n).length) (ht : t ≤ 2 * (cutI a b c n).length) (hst : s = t + 1 ∨ t = s + 1) (ho : t % 2 = 1)
    (h : ¬ flt (hgt a b c (smp (cutI a b c n) s) j) (hgt a b c (smp (cutI a b c n) s) i)) : ¬ flt (hgt a b c (smp (cutI a b c n) t) j) (hgt a b c (smp (cutI a b c n) t) i) := by
  have hup := cutC hl
  have hxs := (smp_fok hup hs).1
  have hxt := (smp_fok hup ht).1
  rw [gH hxs bi bj] at h
  rw [gH hxt bi bj]
  intro w
  have et : smp (cutI a b c n) t = fg (cutI a b c n) (t / 2) := by
    have := smp_odd (L := cutI a b c n) (k := t / 2) (by omega)
    rw [show 2 * (t / 2) + 1 = t by omega] at this
    exact this
  have hN : b i * b j ≠ 0 := fun q => by rcases Int.mul_eq_zero.mp q with z | z <;> contradiction
  by_cases hd : a i * b j - a j * b i = 0
  · rw [hd, Int.zero_mul, Int.zero_add, ← Int.mul_assoc] at h w
    have w2 : b i * b j * (c i * b j - b i * c j) < 0 := by
      rcases Decidable.em (b i * b j * (c i * b j - b i * c j) < 0) with z | z
      · exact z
      · have := Int.mul_nonneg (Int.not_lt.mp z) (Int.le_of_lt hxt); omega
    have := Int.mul_neg_of_neg_of_pos w2 hxs
    omega
  · obtain ⟨m, hm, em⟩ := cross_in (c := c) hi hj hd
    have hz := hup.1 m hm
    obtain ⟨g, hg0, hg1, hg2, hg3, -⟩ := fred_spec (b i * c j - b j * c i) (a i * b j - a j * b i) hd
    rw [← em] at hg1 hg2 hg3
    rw [et] at w
    have hlo : s < 2 * m + 1 → flt (smp (cutI a b c n) s) (fg (cutI a b c n) m) := fun q => smp_lo hup hm q
    have hhi : 2 * m + 1 < s → flt (fg (cutI a b c n) m) (smp (cutI a b c n) s) := fun q => smp_hi hup hm q hs
    have htm : t / 2 < m ∨ t / 2 = m ∨ m < t / 2 := Nat.lt_trichotomy _ _
    have o1 : t / 2 < m → flt (fg (cutI a b c n) (t / 2)) (fg (cutI a b c n) m) := fun q => hup.2 _ _ q hm
    have o2 : m < t / 2 → flt (fg (cutI a b c n) m) (fg (cutI a b c n) (t / 2)) := fun q => hup.2 _ _ q (by omega)
    have hxt2 := (hup.1 (t / 2) (by omega)).1
    have key : ∀ x : Fr, b i * b j * ((a i * b j - a j * b i) * x.1 + (c i * b j - b i * c j) * x.2) = b i * b j * g * (x.1 * (fg (cutI a b c n) m).2 - (fg (cutI a b c n) m).1 * x.2) := by
      intro x
      have e2 : c i * b j - b i * c j = -(g * (fg (cutI a b c n) m).1) := by rw [← hg1]; grind
      rw [hg2, e2]
      grind
    rw [key] at h w
    have hNg : b i * b j * g ≠ 0 := fun q => by rcases Int.mul_eq_zero.mp q with z | z <;> contradiction
    generalize b i * b j * g = N at *
    generalize smp (cutI a b c n) s = x at *
    unfold flt at *
    have es : m = t / 2 → fg (cutI a b c n) m = fg (cutI a b c n) (t / 2) := fun q => by rw [q]
    rcases htm with q | q | q
    · have d1 := o1 q
      have d2 := hlo (by omega)
      have N0 : 0 < N := by
        rcases Int.lt_or_gt_of_ne hNg with z | z
        · have := Int.mul_pos_of_neg_of_neg z (show (fg (cutI a b c n) (t / 2)).1 * (fg (cutI a b c n) m).2 - (fg (cutI a b c n) m).1 * (fg (cutI a b c n) (t / 2)).2 < 0 by omega)
          omega
        · exact z
      exact h (Int.mul_neg_of_pos_of_neg N0 (by omega))
    · rw [es q.symm] at w
      have : (fg (cutI a b c n) (t / 2)).1 * (fg (cutI a b c n) (t / 2)).2 - (fg (cutI a b c n) (t / 2)).1 * (fg (cutI a b c n) (t / 2)).2 = 0 := by omega
      rw [this, Int.mul_zero] at w
      omega
    · have d1 := o2 q
      have d2 := hhi (by omega)
      have N0 : N < 0 := by
        rcases Int.lt_or_gt_of_ne hNg with z | z
        · exact z
        · have := Int.mul_pos z (show 0 < (fg (cutI a b c n) (t / 2)).1 * (fg (cutI a b c n) m).2 - (fg (cutI a b c n) m).1 * (fg (cutI a b c n) (t / 2)).2 by omega)
          omega
      exact h (Int.mul_neg_of_neg_of_pos N0 (by omega))
/-- the number of line k's curve in strip s -/
def ci (a b c : Nat → Int) (n s k : Nat) : Nat := fpos (hgt a b c (smp (cutI a b c n) s) k) (crv a b c n s)
theorem ci_ok {n : Nat} {a b c : Nat → Int} {s k : Nat} (hl : lok n a b c) (hs : s ≤ 2 * (cutI a b c n).length) (hk : k < n) (hb : b k ≠ 0) : ci a b c n s k < (crv a b c n s).length ∧ fg (crv a b c n s) (ci a b c n s k) = hgt a b c (smp (cutI a b c n) s) k ∧ pli a b c n s k = 2 * (ci a b c n s k : Int) + 1 := by
  have hx := (smp_fok (cutC hl) hs).1
  obtain ⟨h1, h2⟩ := hts_ok (a := a) (b := b) (c := c) hx n
  obtain ⟨j, hj, e, e2⟩ := fpc_in h1 (h2 k hk hb)
  have hp : fpos (hgt a b c (smp (cutI a b c n) s) k) (hts a b c (smp (cutI a b c n) s) n) = j := fpos_eq (by omega) (fun i hi => by rw [← e]; exact h1.2 i j hi hj) (fun _ => by rw [e]; exact flt_irr _)
  have hc : ci a b c n s k = j := hp
  rw [hc]
  refine ⟨hj, e, ?_⟩
  unfold pli
  rw [if_neg hb]
  show ((fpc (hgt a b c (smp (cutI a b c n) s) k) (hts a b c (smp (cutI a b c n) s) n) : Nat) : Int) = _
  rw [e2]
  omega
theorem ci_flt {n : Nat} {a b c : Nat → Int} {s i j : Nat} (hl : lok n a b c) (hs : s ≤ 2 * (cutI a b c n).length) (hi : i < n) (hj : j < n) (bi : b i ≠ 0) (bj : b j ≠ 0) : flt (hgt a b c (smp (cutI a b c n) s) i) (hgt a b c (smp (cutI a b c n) s) j) ↔ ci a b c n s i < ci a b c n s j := by
  have hx := (smp_fok (cutC hl) hs).1
  have hup : fup (crv a b c n s) := (hts_ok (a := a) (b := b) (c := c) hx n).1
  obtain ⟨i1, i2, -⟩ := ci_ok hl hs hi bi
  obtain ⟨j1, j2, -⟩ := ci_ok hl hs hj bj
  rw [← i2, ← j2]
  generalize ci a b c n s i = u at *
  generalize ci a b c n s j = v at *
  constructor
  · intro w
    rcases Nat.lt_trichotomy u v with q | q | q
    · exact q
    · rw [q] at w; exact absurd w (flt_irr _)
    · exact absurd (flt_tr (hup.1 _ i1).1 (hup.1 _ j1).1 (hup.1 _ i1).1 w (hup.2 _ _ q i1)) (flt_irr _)
  · intro w
    exact hup.2 _ _ w j1
theorem ci_keep {n : Nat} {a b c : Nat → Int} {s t i j : Nat} (hl : lok n a b c) (hi : i < n) (hj : j < n) (bi : b i ≠ 0) (bj : b j ≠ 0) (hs : s ≤ 2 * (cutI a b c n).length) (ht : t ≤ 2 * (cutI a b c n).length) (hst : s = t + 1 ∨ t = s + 1) (ho : t % 2 = 1) (h : ci a b c n s i ≤ ci a b c n s j) : ci a b c n t i ≤ ci a b c n t j := by
  have := ord_keep hl hi hj bi bj hs ht hst ho (fun w => by rw [ci_flt hl hs hj hi bj bi] at w; omega)
  rw [ci_flt hl ht hj hi bj bi] at this
  omega
/-- what `ends' finds: from the open strip s to the cut t, curve j -/
def isE (a b c : Nat → Int) (n s t : Nat) (j e : Int) : Prop := (j < 0 ∧ e = -1) ∨ (0 ≤ j ∧ j < (crv a b c n s).length ∧ ∃ i, i < n ∧ b i ≠ 0 ∧ ci a b c n s i = j.toNat ∧ e = ci a b c n t i) ∨ ((crv a b c n s).length ≤ j ∧ e = (crv a b c n t).length)
theorem rch_all {a b c : Nat → Int} {n s p t q : Nat} : ∀ m k, rchK a b c n s p t q m k = true ↔ ∀ i, k ≤ i → i < k + m → (sg (q - pli a b c n t i) = 0 ∨ sg (q - pli a b c n t i) = sg (p - pli a b c n s i))
  | 0, k => ⟨fun _ i h1 h2 => absurd h2 (by omega), fun _ => rfl⟩
  | m + 1, k => by
    rw [rchK]
    by_cases h : sg (q - pli a b c n t k) = 0 ∨ sg (q - pli a b c n t k) = sg (p - pli a b c n s k)
    · rw [if_pos h, rch_all m (k + 1)]
      constructor
      · intro w i h1 h2
        by_cases e : i = k
        · rw [e]; exact h
        · exact w i (by omega) (by omega)
      · intro w i h1 h2
        exact w i (by omega) (by omega)
    · rw [if_neg h]
      constructor
      · intro w; exact absurd w (by decide)
      · intro w; exact absurd (w k (Nat.le_refl k) (by omega)) h
theorem sg_cases (z : Int) : (0 < z ∧ sg z = 1) ∨ (z = 0 ∧ sg z = 0) ∨ (z < 0 ∧ sg z = -1) := by
  unfold sg
  rcases Int.lt_trichotomy z 0 with q | q | q
  · rw [if_neg (by omega), if_pos q]; exact Or.inr (Or.inr ⟨q, rfl⟩)
  · rw [if_neg (by omega), if_neg (by omega)]; exact Or.inr (Or.inl ⟨q, rfl⟩)
  · rw [if_pos q]; exact Or.inl ⟨q, rfl⟩
/-- the class's way, line by line -/
theorem rch_ln {n : Nat} {a b c : Nat → Int} {s p t q : Nat} (hl : lok n a b c) (hs : s ≤ 2 * (cutI a b c n).length) (ht : t ≤ 2 * (cutI a b c n).length) : rchK a b c n s p t q n 0 = true ↔ ∀ i, i < n → b i ≠ 0 → ((2 * ci a b c n s i + 1 < p → 2 * ci a b c n t i + 1 ≤ q) ∧ (p < 2 * ci a b c n s i + 1 → q ≤ 2 * ci a b c n t i + 1) ∧ (p = 2 * ci a b c n s i + 1 → q = 2 * ci a b c n t i + 1)) := by
  rw [rch_all]
  constructor
  · intro w i hi bi
    have h := w i (Nat.zero_le i) (by omega)
    obtain ⟨-, -, e1⟩ := ci_ok hl hs hi bi
    obtain ⟨-, -, e2⟩ := ci_ok hl ht hi bi
    rw [e1, e2] at h
    have s1 := sg_cases ((q : Int) - (2 * (ci a b c n t i : Int) + 1))
    have s2 := sg_cases ((p : Int) - (2 * (ci a b c n s i : Int) + 1))
    omega
  · intro w i _ hi
    by_cases bi : b i = 0
    · right
      have e : ∀ s, pli a b c n s i = -1 := fun s => by unfold pli; rw [if_pos bi]
      rw [e, e]
      have s1 := sg_cases ((q : Int) - -1)
      have s2 := sg_cases ((p : Int) - -1)
      omega
    · have h := w i (by omega) bi
      obtain ⟨-, -, e1⟩ := ci_ok hl hs (show i < n by omega) bi
      obtain ⟨-, -, e2⟩ := ci_ok hl ht (show i < n by omega) bi
      rw [e1, e2]
      have s1 := sg_cases ((q : Int) - (2 * (ci a b c n t i : Int) + 1))
      have s2 := sg_cases ((p : Int) - (2 * (ci a b c n s i : Int) + 1))
      omega
theorem crv_src {n : Nat} {a b c : Nat → Int} {s j : Nat} (hl : lok n a b c) (hs : s ≤ 2 * (cutI a b c n).length) (hj : j < (crv a b c n s).length) : ∃ i, i < n ∧ b i ≠ 0 ∧ hgt a b c (smp (cutI a b c n) s) i = fg (crv a b c n s) j ∧ ci a b c n s i = j := by
  have hx := (smp_fok (cutC hl) hs).1
  have hup : fup (crv a b c n s) := (hts_ok (a := a) (b := b) (c := c) hx n).1
  obtain ⟨i, hi, bi, e⟩ := hts_src n (fg (crv a b c n s) j) ⟨j, hj, rfl⟩
  refine ⟨i, hi, bi, e, ?_⟩
  unfold ci
  rw [e]
  exact fpos_eq (by omega) (fun k hk => hup.2 _ _ hk hj) (fun _ => flt_irr _)
/-- an odd place of the open strip: on curve p / 2 -/
theorem rch_odd {n : Nat} {a b c : Nat → Int} {s p t q : Nat} {e : Int} (hl : lok n a b c) (hs : s ≤ 2 * (cutI a b c n).length) (ht : t ≤ 2 * (cutI a b c n).length) (hst : s = t + 1 ∨ t = s + 1) (ho : t % 2 = 1) (hp : p ≤ 2 * (crv a b c n s).length) (op : p % 2 = 1) (he : isE a b c n s t (p / 2 : Nat) e) : rchK a b c n s p t q n 0 = true ↔ (q : Int) = 2 * e + 1 := by
  rw [rch_ln hl hs ht]
  rcases he with ⟨h1, -⟩ | ⟨-, h2, i, hi, bi, ei, ee⟩ | ⟨h1, -⟩
  · omega
  · constructor
    · intro w
      have := (w i hi bi).2.2 (by omega)
      omega
    · intro w k hk bk
      have k1 : ci a b c n s k ≤ ci a b c n s i → _ := ci_keep hl hk hi bk bi hs ht hst ho
      have k2 : ci a b c n s i ≤ ci a b c n s k → _ := ci_keep hl hi hk bi bk hs ht hst ho
      omega
  · omega
/-- an even place: between curve p / 2 - 1 and curve p / 2 -/
theorem rch_even {n : Nat} {a b c : Nat → Int} {s p t q : Nat} {e f : Int} (hl : lok n a b c) (hs : s ≤ 2 * (cutI a b c n).length) (ht : t ≤ 2 * (cutI a b c n).length) (hst : s = t + 1 ∨ t = s + 1) (ho : t % 2 = 1) (hp : p ≤ 2 * (crv a b c n s).length) (hq : q ≤ 2 * (crv a b c n t).length) (op : ¬ p % 2 = 1) (he : isE a b c n s t ((p / 2 : Nat) - 1) e) (hf : isE a b c n s t (p / 2 : Nat) f) : rchK a b c n s p t q n 0 = true ↔ (2 * e + 1 ≤ q ∧ (q : Int) ≤ 2 * f + 1) := by
  rw [rch_ln hl hs ht]
  have lo : (∀ i, i < n → b i ≠ 0 → 2 * ci a b c n s i + 1 < p → 2 * ci a b c n t i + 1 ≤ q) ↔ 2 * e + 1 ≤ q := by
    rcases he with ⟨h1, h2⟩ | ⟨h0, h2, i, hi, bi, ei, ee⟩ | ⟨h1, -⟩
    · exact ⟨fun _ => by omega, fun _ i _ _ w => by omega⟩
    · constructor
      · intro w
        have := w i hi bi (by omega)
        omega
      · intro w k hk bk hlt
        have k1 := ci_keep hl hk hi bk bi hs ht hst ho (by omega)
        omega
    · omega
  have hi' : (∀ i, i < n → b i ≠ 0 → p < 2 * ci a b c n s i + 1 → q ≤ 2 * ci a b c n t i + 1) ↔ (q : Int) ≤ 2 * f + 1 := by
    rcases hf with ⟨h1, h2⟩ | ⟨-, h2, i, hi, bi, ei, ee⟩ | ⟨h1, h2⟩
    · omega
    · constructor
      · intro w
        have := w i hi bi (by omega)
        omega
      · intro w k hk bk hlt
        have k1 := ci_keep hl hi hk bi bk hs ht hst ho (by omega)
        omega
    · refine ⟨fun _ => by omega, fun _ i hi bi w => ?_⟩
      have := (ci_ok hl hs hi bi).1
      omega
  constructor
  · intro w
    exact ⟨lo.mp (fun i hi bi => (w i hi bi).1), hi'.mp (fun i hi bi => (w i hi bi).2.1)⟩
  · intro w i hi bi
    exact ⟨lo.mpr w.1 i hi bi, hi'.mpr w.2 i hi bi, fun z => by omega⟩
