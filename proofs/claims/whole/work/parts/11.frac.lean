/-! fractions: pairs (above, below) of whole numbers; lowest terms; rising lists of them -/
abbrev Fr : Type := Int × Int
def fr0 : Fr := (0, 1)
/-- x is below y (both with a number above 0 below the bar) -/
abbrev flt (x y : Fr) : Prop := x.1 * y.2 < y.1 * x.2
/-- lowest terms, the number below the bar above 0 -/
def fred (u d : Int) : Fr := if d < 0 then (-(u / (Int.gcd u d : Int)), -(d / (Int.gcd u d : Int))) else (u / (Int.gcd u d : Int), d / (Int.gcd u d : Int))
theorem fred_spec (u d : Int) (hd : d ≠ 0) : ∃ g : Int, g ≠ 0 ∧ u = g * (fred u d).1 ∧ d = g * (fred u d).2 ∧ 0 < (fred u d).2 ∧ (0 < d → 0 < g) := by
  have g0 : 0 < (Int.gcd u d : Int) := by exact_mod_cast Int.gcd_pos_of_ne_zero_right u hd
  have hu : (Int.gcd u d : Int) * (u / (Int.gcd u d : Int)) = u := Int.mul_ediv_cancel' (Int.gcd_dvd_left u d)
  have hv : (Int.gcd u d : Int) * (d / (Int.gcd u d : Int)) = d := Int.mul_ediv_cancel' (Int.gcd_dvd_right u d)
  unfold fred
  generalize (Int.gcd u d : Int) = g at *
  generalize u / g = U at *
  generalize d / g = D at *
  by_cases h : d < 0
  · rw [if_pos h]
    refine ⟨-g, by omega, ?_, ?_, ?_, fun h2 => absurd h2 (by omega)⟩
    · show u = -g * -U
      rw [Int.neg_mul_neg]; exact hu.symm
    · show d = -g * -D
      rw [Int.neg_mul_neg]; exact hv.symm
    · show 0 < -D
      have : D < 0 := by
        apply Int.not_le.mp
        intro hD
        have := Int.mul_nonneg (Int.le_of_lt g0) hD
        omega
      omega
  · rw [if_neg h]
    refine ⟨g, by omega, hu.symm, hv.symm, ?_, fun _ => g0⟩
    show 0 < D
    apply Int.not_le.mp
    intro hD
    have := Int.mul_nonneg (Int.le_of_lt g0) (show 0 ≤ -D by omega)
    rw [Int.mul_neg] at this
    omega
theorem fred_pos (u d : Int) (hd : d ≠ 0) : 0 < (fred u d).2 := (fred_spec u d hd).choose_spec.2.2.2.1
theorem fred_scale (k u d : Int) (hk : k ≠ 0) (hd : d ≠ 0) : fred (k * u) (k * d) = fred u d := by
  have hg : (Int.gcd (k * u) (k * d) : Int) = (k.natAbs : Int) * (Int.gcd u d : Int) := by
    rw [Int.gcd_mul_left]; exact Int.natCast_mul _ _
  have du := Int.gcd_dvd_left u d
  have dd := Int.gcd_dvd_right u d
  unfold fred
  rw [hg]
  generalize (Int.gcd u d : Int) = g at *
  rcases Int.lt_or_gt_of_ne hk with h | h
  · obtain ⟨j, rfl⟩ : ∃ j : Int, k = -j := ⟨-k, by omega⟩
    have hj : 0 < j := by omega
    have hn : ((-j).natAbs : Int) = j := by omega
    rw [hn, show -j * u = j * -u by rw [Int.neg_mul, Int.mul_neg], show -j * d = j * -d by rw [Int.neg_mul, Int.mul_neg], Int.mul_ediv_mul_of_pos _ _ hj, Int.mul_ediv_mul_of_pos _ _ hj, Int.neg_ediv_of_dvd du, Int.neg_ediv_of_dvd dd]
    rcases Int.lt_or_gt_of_ne hd with h2 | h2
    · rw [if_pos h2, if_neg (by have := Int.mul_pos hj (show 0 < -d by omega); omega)]
    · rw [if_neg (show ¬ d < 0 by omega), if_pos (show j * -d < 0 by have := Int.mul_pos hj h2; rw [Int.mul_neg]; omega)]
      simp
  · have hn : (k.natAbs : Int) = k := by omega
    rw [hn, Int.mul_ediv_mul_of_pos _ _ h, Int.mul_ediv_mul_of_pos _ _ h]
    rcases Int.lt_or_gt_of_ne hd with h2 | h2
    · rw [if_pos h2, if_pos (by have := Int.mul_pos h (show 0 < -d by omega); rw [Int.mul_neg] at this; omega)]
    · rw [if_neg (show ¬ d < 0 by omega), if_neg (show ¬ k * d < 0 by have := Int.mul_pos h h2; omega)]
theorem fred_eq {u d u' d' : Int} (hd : d ≠ 0) (hd' : d' ≠ 0) (h : u * d' = u' * d) : fred u d = fred u' d' := by
  rw [← fred_scale d' u d hd' hd, ← fred_scale d u' d' hd hd', Int.mul_comm d' u, h, Int.mul_comm u' d, Int.mul_comm d' d]
theorem flt_red {u d u' d' : Int} (hd : 0 < d) (hd' : 0 < d') : flt (fred u d) (fred u' d') ↔ u * d' < u' * d := by
  obtain ⟨g, -, h1, h2, -, h4⟩ := fred_spec u d (by omega)
  obtain ⟨g', -, h1', h2', -, h4'⟩ := fred_spec u' d' (by omega)
  have hg := h4 hd
  have hg' := h4' hd'
  unfold flt
  generalize (fred u d).1 = U at *
  generalize (fred u d).2 = D at *
  generalize (fred u' d').1 = U' at *
  generalize (fred u' d').2 = D' at *
  subst h1 h2 h1' h2'
  have e1 : g * U * (g' * D') = (g * g') * (U * D') := by grind
  have e2 : g' * U' * (g * D) = (g * g') * (U' * D) := by grind
  rw [e1, e2]
  have hp : 0 < g * g' := Int.mul_pos hg hg'
  exact ⟨fun h => Int.mul_lt_mul_of_pos_left h hp, fun h => Int.lt_of_mul_lt_mul_left h (Int.le_of_lt hp)⟩
theorem fred_cross {u d u' d' : Int} (hd : 0 < d) (hd' : 0 < d') : fred u d = fred u' d' ↔ u * d' = u' * d := by
  constructor
  · intro h
    obtain ⟨g, -, h1, h2, -, -⟩ := fred_spec u d (by omega)
    obtain ⟨g', -, h1', h2', -, -⟩ := fred_spec u' d' (by omega)
    rw [← h] at h1' h2'
    generalize (fred u d).1 = U at *
    generalize (fred u d).2 = D at *
    subst h1 h2 h1' h2'
    grind
  · exact fred_eq (by omega) (by omega)
theorem fred_red (u d : Int) (hd : d ≠ 0) : fred (fred u d).1 (fred u d).2 = fred u d := by
  obtain ⟨g, -, h1, h2, h3, -⟩ := fred_spec u d hd
  refine fred_eq (by omega) hd ?_
  generalize (fred u d).1 = U at *
  generalize (fred u d).2 = D at *
  subst h1 h2
  grind
/-- what is in lowest terms -/
def fok (x : Fr) : Prop := 0 < x.2 ∧ fred x.1 x.2 = x
theorem fok_red (u d : Int) (hd : d ≠ 0) : fok (fred u d) := ⟨fred_pos u d hd, fred_red u d hd⟩
theorem fok_lt {x y : Fr} (hx : fok x) (hy : fok y) : ¬ flt x y → ¬ flt y x → x = y := by
  intro h1 h2
  rw [← hx.2, ← hy.2]
  refine fred_eq (by have := hx.1; omega) (by have := hy.1; omega) ?_
  unfold flt at h1 h2
  omega
theorem flt_irr (x : Fr) : ¬ flt x x := by unfold flt; omega
theorem flt_tr {x y z : Fr} (hx : 0 < x.2) (hy : 0 < y.2) (hz : 0 < z.2) (h1 : flt x y) (h2 : flt y z) : flt x z := by
  unfold flt at *
  have a := Int.mul_lt_mul_of_pos_right h1 hz
  have b := Int.mul_lt_mul_of_pos_right h2 hx
  refine Int.lt_of_mul_lt_mul_right (a := y.2) ?_ (Int.le_of_lt hy)
  have e1 : x.1 * z.2 * y.2 = x.1 * y.2 * z.2 := by grind
  have e2 : z.1 * x.2 * y.2 = z.1 * y.2 * x.2 := by grind
  have e3 : y.1 * x.2 * z.2 = y.1 * z.2 * x.2 := by grind
  omega
/-! rising lists -/
/-- how many lead with fractions below x -/
def fpos (x : Fr) : List Fr → Nat
  | [] => 0
  | y :: t => if flt y x then fpos x t + 1 else 0
/-- x put at its place, once -/
def fins (x : Fr) : List Fr → List Fr
  | [] => [x]
  | y :: t => if flt y x then y :: fins x t else if y = x then y :: t else x :: y :: t
abbrev fg (L : List Fr) (j : Nat) : Fr := L.getD j fr0
theorem fpos_le (x : Fr) (L : List Fr) : fpos x L ≤ L.length := by
  induction L with
  | nil => exact Nat.le_refl 0
  | cons y t ih =>
    unfold fpos
    split
    · exact Nat.succ_le_succ ih
    · exact Nat.zero_le _
theorem fpos_lt (x : Fr) (L : List Fr) : ∀ j, j < fpos x L → flt (fg L j) x := by
  induction L with
  | nil => intro j h; exact absurd h (Nat.not_lt_zero j)
  | cons y t ih =>
    intro j h
    unfold fpos at h
    split at h
    case isTrue hy =>
      cases j with
      | zero => exact hy
      | succ j => exact ih j (Nat.lt_of_succ_lt_succ h)
    case isFalse => exact absurd h (Nat.not_lt_zero j)
theorem fpos_ge (x : Fr) (L : List Fr) : fpos x L < L.length → ¬ flt (fg L (fpos x L)) x := by
  induction L with
  | nil => intro h; exact absurd h (Nat.not_lt_zero _)
  | cons y t ih =>
    intro h
    unfold fpos at h ⊢
    split at h
    case isTrue hy =>
      rw [if_pos hy]
      exact ih (Nat.lt_of_succ_lt_succ h)
    case isFalse hy =>
      rw [if_neg hy]
      exact hy
theorem fpos_eq {x : Fr} {L : List Fr} {p : Nat} (h1 : p ≤ L.length) (h2 : ∀ j, j < p → flt (fg L j) x) (h3 : p < L.length → ¬ flt (fg L p) x) : fpos x L = p := by
  have a := fpos_lt x L
  have b := fpos_ge x L
  have c := fpos_le x L
  rcases Nat.lt_trichotomy (fpos x L) p with h | h | h
  · exact absurd (h2 _ h) (b (by omega))
  · exact h
  · exact absurd (a _ h) (h3 (by omega))
theorem fins_in {x : Fr} {L : List Fr} (h : fpos x L < L.length) (he : fg L (fpos x L) = x) : fins x L = L := by
  induction L with
  | nil => exact absurd h (Nat.not_lt_zero _)
  | cons y t ih =>
    unfold fpos at h he
    unfold fins
    split at h
    case isTrue hy =>
      rw [if_pos hy] at he ⊢
      rw [ih (Nat.lt_of_succ_lt_succ h) he]
    case isFalse hy =>
      rw [if_neg hy] at he ⊢
      have : y = x := he
      rw [if_pos this]
theorem fins_new {x : Fr} {L : List Fr} (h : ¬ (fpos x L < L.length ∧ fg L (fpos x L) = x)) : (fins x L).length = L.length + 1 ∧ ∀ j, fg (fins x L) j = if j < fpos x L then fg L j else if j = fpos x L then x else fg L (j - 1) := by
  induction L with
  | nil =>
    refine ⟨rfl, fun j => ?_⟩
    cases j with
    | zero => rfl
    | succ j => rfl
  | cons y t ih =>
    unfold fpos at h
    by_cases hy : flt y x
    · rw [if_pos hy] at h
      have h2 : ¬ (fpos x t < t.length ∧ fg t (fpos x t) = x) := fun q => h ⟨Nat.succ_lt_succ q.1, q.2⟩
      obtain ⟨i1, i2⟩ := ih h2
      have e : fins x (y :: t) = y :: fins x t := by show (if flt y x then _ else _) = _; rw [if_pos hy]
      have e2 : fpos x (y :: t) = fpos x t + 1 := by show (if flt y x then _ else _) = _; rw [if_pos hy]
      rw [e, e2]
      refine ⟨by simp [i1], fun j => ?_⟩
      cases j with
      | zero => rfl
      | succ j =>
        have := i2 j
        show fg (fins x t) j = _
        rw [this]
        by_cases c1 : j < fpos x t
        · rw [if_pos c1, if_pos (show j + 1 < fpos x t + 1 by omega)]; rfl
        · rw [if_neg c1, if_neg (show ¬ j + 1 < fpos x t + 1 by omega)]
          by_cases c2 : j = fpos x t
          · rw [if_pos c2, if_pos (show j + 1 = fpos x t + 1 by omega)]
          · rw [if_neg c2, if_neg (show ¬ j + 1 = fpos x t + 1 by omega)]
            obtain ⟨i, rfl⟩ : ∃ i, j = i + 1 := ⟨j - 1, by omega⟩
            rfl
    · rw [if_neg hy] at h
      have h2 : ¬ y = x := fun q => h ⟨Nat.succ_pos _, q⟩
      have e : fins x (y :: t) = x :: y :: t := by show (if flt y x then _ else _) = _; rw [if_neg hy, if_neg h2]
      have e2 : fpos x (y :: t) = 0 := by show (if flt y x then _ else _) = _; rw [if_neg hy]
      rw [e, e2]
      refine ⟨rfl, fun j => ?_⟩
      cases j with
      | zero => rfl
      | succ j => rfl
/-- all in lowest terms, rising -/
def fup (L : List Fr) : Prop := (∀ j, j < L.length → fok (fg L j)) ∧ ∀ i j, i < j → j < L.length → flt (fg L i) (fg L j)
theorem fup_nil : fup [] := ⟨fun j h => absurd h (Nat.not_lt_zero j), fun i j _ h => absurd h (Nat.not_lt_zero j)⟩
theorem fup_ins {x : Fr} {L : List Fr} (hx : fok x) (h : fup L) : fup (fins x L) := by
  by_cases c : fpos x L < L.length ∧ fg L (fpos x L) = x
  · rw [fins_in c.1 c.2]; exact h
  · obtain ⟨e1, e2⟩ := fins_new c
    have b1 := fpos_lt x L
    have b2 := fpos_ge x L
    have b3 := fpos_le x L
    have above : ∀ j, fpos x L ≤ j → j < L.length → flt x (fg L j) := by
      intro j h1 h2
      have h3 : flt x (fg L (fpos x L)) := by
        apply Classical.byContradiction
        intro q
        exact c ⟨by omega, fok_lt (h.1 _ (by omega)) hx (b2 (by omega)) q⟩
      rcases Nat.eq_or_lt_of_le h1 with q | q
      · rw [← q]; exact h3
      · exact flt_tr hx.1 (h.1 _ (by omega)).1 (h.1 _ h2).1 h3 (h.2 _ _ q h2)
    refine ⟨fun j hj => ?_, fun i j hij hj => ?_⟩
    · rw [e2]
      split
      · exact h.1 j (by omega)
      · split
        · exact hx
        · exact h.1 (j - 1) (by omega)
    · rw [e2 i, e2 j]
      by_cases a1 : i < fpos x L
      · rw [if_pos a1]
        by_cases a2 : j < fpos x L
        · rw [if_pos a2]; exact h.2 i j hij (by omega)
        · rw [if_neg a2]
          by_cases a3 : j = fpos x L
          · rw [if_pos a3]; exact b1 i a1
          · rw [if_neg a3]; exact h.2 i (j - 1) (by omega) (by omega)
      · rw [if_neg a1, if_neg (show ¬ j < fpos x L by omega), if_neg (show ¬ j = fpos x L by omega)]
        by_cases a3 : i = fpos x L
        · rw [if_pos a3]; exact above (j - 1) (by omega) (by omega)
        · rw [if_neg a3]; exact h.2 (i - 1) (j - 1) (by omega) (by omega)
theorem fins_len (x : Fr) (L : List Fr) : (fins x L).length ≤ L.length + 1 := by
  by_cases c : fpos x L < L.length ∧ fg L (fpos x L) = x
  · rw [fins_in c.1 c.2]; omega
  · rw [(fins_new c).1]; omega
/-- which piece of the axis: 2 k between marks, 2 k + 1 the mark k -/
def fpc (x : Fr) (L : List Fr) : Nat := if fpos x L < L.length ∧ fg L (fpos x L) = x then 2 * fpos x L + 1 else 2 * fpos x L
