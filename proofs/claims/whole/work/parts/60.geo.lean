/-! samples against marks; the sign of a line in a cell -/
theorem fok_self {x : Fr} (h : fok x) : fred x.1 x.2 = x := h.2
theorem flt_less {x : Fr} (h : fok x) : flt (fred (x.1 - x.2) x.2) x := by
  have e : flt (fred (x.1 - x.2) x.2) (fred x.1 x.2) := (flt_red h.1 h.1).mpr (by
    have := Int.mul_pos h.1 h.1
    rw [Int.sub_mul]; omega)
  rw [h.2] at e
  exact e
theorem flt_more {x : Fr} (h : fok x) : flt x (fred (x.1 + x.2) x.2) := by
  have e : flt (fred x.1 x.2) (fred (x.1 + x.2) x.2) := (flt_red h.1 h.1).mpr (by
    have := Int.mul_pos h.1 h.1
    rw [Int.add_mul]; omega)
  rw [h.2] at e
  exact e
theorem flt_mid {x y : Fr} (hx : fok x) (hy : fok y) (h : flt x y) : flt x (fred (x.1 * y.2 + y.1 * x.2) (2 * x.2 * y.2)) ∧ flt (fred (x.1 * y.2 + y.1 * x.2) (2 * x.2 * y.2)) y := by
  have p := Int.mul_pos hx.1 hy.1
  have p2 : 0 < 2 * x.2 * y.2 := by rw [Int.mul_assoc]; omega
  have q1 := Int.mul_lt_mul_of_pos_right h hx.1
  have q2 := Int.mul_lt_mul_of_pos_right h hy.1
  constructor
  · have e : flt (fred x.1 x.2) (fred (x.1 * y.2 + y.1 * x.2) (2 * x.2 * y.2)) := (flt_red hx.1 p2).mpr (by
      have e1 : x.1 * (2 * x.2 * y.2) = 2 * (x.1 * y.2 * x.2) := by grind
      have e2 : (x.1 * y.2 + y.1 * x.2) * x.2 = x.1 * y.2 * x.2 + y.1 * x.2 * x.2 := by grind
      omega)
    rw [hx.2] at e
    exact e
  · have e : flt (fred (x.1 * y.2 + y.1 * x.2) (2 * x.2 * y.2)) (fred y.1 y.2) := (flt_red p2 hy.1).mpr (by
      have e1 : y.1 * (2 * x.2 * y.2) = 2 * (y.1 * x.2 * y.2) := by grind
      have e2 : (x.1 * y.2 + y.1 * x.2) * y.2 = x.1 * y.2 * y.2 + y.1 * x.2 * y.2 := by grind
      omega)
    rw [hy.2] at e
    exact e
theorem smp_fok {L : List Fr} (hL : fup L) {s : Nat} (hs : s ≤ 2 * L.length) : fok (smp L s) := by
  unfold smp
  split
  · exact ⟨by decide, by decide⟩
  · split
    · exact fok_red _ _ (by have := (hL.1 0 (by omega)).1; omega)
    · split
      · exact fok_red _ _ (by have := (hL.1 (L.length - 1) (by omega)).1; omega)
      · split
        · exact hL.1 _ (by omega)
        · have p := Int.mul_pos (hL.1 (s / 2 - 1) (by omega)).1 (hL.1 (s / 2) (by omega)).1
          exact fok_red _ _ (by rw [Int.mul_assoc]; omega)
/-- what stands left of x stands left of all marks from j on -/
theorem flt_le {L : List Fr} (hL : fup L) {x : Fr} (hx : 0 < x.2) {i j : Nat} (hij : i ≤ j) (hj : j < L.length) (h : flt x (fg L i)) : flt x (fg L j) := by
  rcases Nat.eq_or_lt_of_le hij with e | e
  · rw [← e]; exact h
  · exact flt_tr hx (hL.1 i (by omega)).1 (hL.1 j hj).1 h (hL.2 i j e hj)
theorem flt_ge {L : List Fr} (hL : fup L) {x : Fr} (hx : 0 < x.2) {i j : Nat} (hij : i ≤ j) (hj : j < L.length) (h : flt (fg L j) x) : flt (fg L i) x := by
  rcases Nat.eq_or_lt_of_le hij with e | e
  · rw [e]; exact h
  · exact flt_tr (hL.1 i (by omega)).1 (hL.1 j hj).1 hx (hL.2 i j e hj) h
theorem smp_lo {L : List Fr} (hL : fup L) {s j : Nat} (hj : j < L.length) (hs : s < 2 * j + 1) : flt (smp L s) (fg L j) := by
  have hx := (smp_fok hL (s := s) (by omega)).1
  by_cases h1 : s % 2 = 1
  · have e : smp L s = fg L (s / 2) := by
      have := smp_odd (L := L) (k := s / 2) (by omega)
      rw [show 2 * (s / 2) + 1 = s by omega] at this
      exact this
    rw [e]
    exact hL.2 _ _ (by omega) hj
  · refine flt_le hL hx (i := s / 2) (by omega) hj ?_
    unfold smp
    rw [if_neg (by omega)]
    by_cases h0 : s = 0
    · rw [if_pos h0, h0]; exact flt_less (hL.1 0 (by omega))
    · rw [if_neg h0, if_neg (by omega), if_neg h1]
      exact (flt_mid (hL.1 (s / 2 - 1) (by omega)) (hL.1 (s / 2) (by omega)) (hL.2 _ _ (by omega) (by omega))).2
theorem smp_hi {L : List Fr} (hL : fup L) {s j : Nat} (hj : j < L.length) (hs : 2 * j + 1 < s) (hs2 : s ≤ 2 * L.length) : flt (fg L j) (smp L s) := by
  have hx := (smp_fok hL hs2).1
  by_cases h1 : s % 2 = 1
  · have e : smp L s = fg L (s / 2) := by
      have := smp_odd (L := L) (k := s / 2) (by omega)
      rw [show 2 * (s / 2) + 1 = s by omega] at this
      exact this
    rw [e]
    exact hL.2 _ _ (by omega) (by omega)
  · refine flt_ge hL hx (i := j) (j := s / 2 - 1) (by omega) (by omega) ?_
    unfold smp
    rw [if_neg (by omega), if_neg (by omega)]
    by_cases h0 : L.length ≤ s / 2
    · rw [if_pos h0, show s / 2 - 1 = L.length - 1 by omega]; exact flt_more (hL.1 _ (by omega))
    · rw [if_neg h0, if_neg h1]
      exact (flt_mid (hL.1 (s / 2 - 1) (by omega)) (hL.1 (s / 2) (by omega)) (hL.2 _ _ (by omega) (by omega))).1
/-- a mark's piece -/
theorem fpc_in {x : Fr} {L : List Fr} (hL : fup L) (h : inF x L) : ∃ j, j < L.length ∧ fg L j = x ∧ fpc x L = 2 * j + 1 := by
  obtain ⟨k, hk, e⟩ := h
  have hp : fpos x L = k := fpos_eq (by omega) (fun j hj => by rw [← e]; exact hL.2 j k hj hk) (fun _ => by rw [e]; exact flt_irr x)
  refine ⟨k, hk, e, ?_⟩
  unfold fpc
  rw [hp, if_pos ⟨hk, e⟩]
theorem hgt_ok {n : Nat} {a b c : Nat → Int} {x : Fr} {k : Nat} (hx : 0 < x.2) (hb : b k ≠ 0) : fok (hgt a b c x k) := fok_red _ _ (fun q => by rcases Int.mul_eq_zero.mp q with z | z <;> omega)
theorem hts_ok {a b c : Nat → Int} {x : Fr} (hx : 0 < x.2) : ∀ n, fup (hts a b c x n) ∧ ∀ k, k < n → b k ≠ 0 → inF (hgt a b c x k) (hts a b c x n)
  | 0 => ⟨fup_nil, fun k hk => absurd hk (by omega)⟩
  | n + 1 => by
    obtain ⟨h1, h2⟩ := hts_ok (a := a) (b := b) (c := c) hx n
    rw [hts]
    by_cases hb : b n = 0
    · rw [if_pos hb]
      refine ⟨h1, fun k hk q => ?_⟩
      by_cases e : k = n
      · rw [e] at q; exact absurd hb q
      · exact h2 k (by omega) q
    · rw [if_neg hb]
      refine ⟨fup_ins (hgt_ok (n := n) hx hb) h1, fun k hk q => ?_⟩
      by_cases e : k = n
      · rw [e]; exact inF_self _ _
      · exact inF_keep (h2 k (by omega) q)
/-- the number whose sign is the sign of line k at the point x, y -/
def sgV (a b c : Nat → Int) (x y : Fr) (k : Nat) : Int := a k * x.1 * y.2 + b k * y.1 * x.2 + c k * x.2 * y.2
def sg (z : Int) : Int := if 0 < z then 1 else if z < 0 then -1 else 0
theorem sg_eq {z w t : Int} (ht : 0 < t) (h : z * t = w) : sg z = sg w := by
  unfold sg
  rcases Int.lt_trichotomy z 0 with q | q | q
  · have : w < 0 := by rw [← h]; exact Int.mul_neg_of_neg_of_pos q ht
    rw [if_neg (by omega), if_pos q, if_neg (by omega), if_pos this]
  · rw [q, Int.zero_mul] at h
    rw [q, ← h]
  · have : 0 < w := by rw [← h]; exact Int.mul_pos q ht
    rw [if_pos q, if_pos this]
theorem hgt_spec {a b c : Nat → Int} {x : Fr} {k : Nat} (hx : 0 < x.2) (hb : b k ≠ 0) : (hgt a b c x k).1 * (b k * x.2) = -(a k * x.1 + c k * x.2) * (hgt a b c x k).2 ∧ 0 < (hgt a b c x k).2 := by
  have hd : b k * x.2 ≠ 0 := fun q => by rcases Int.mul_eq_zero.mp q with z | z <;> omega
  obtain ⟨g, -, h1, h2, h3, -⟩ := fred_spec (-(a k * x.1 + c k * x.2)) (b k * x.2) hd
  unfold hgt
  refine ⟨?_, h3⟩
  generalize fred (-(a k * x.1 + c k * x.2)) (b k * x.2) = z at *
  rw [h1, h2]
  grind
/-- line k's sign at (x, y), by y against its height -/
theorem sg_hgt {a b c : Nat → Int} {x y : Fr} {k : Nat} (hx : 0 < x.2) (hy : 0 < y.2) (hb : b k ≠ 0) : sg (sgV a b c x y k) = if 0 < b k then sg (y.1 * (hgt a b c x k).2 - (hgt a b c x k).1 * y.2) else - sg (y.1 * (hgt a b c x k).2 - (hgt a b c x k).1 * y.2) := by
  obtain ⟨h1, h2⟩ := hgt_spec (a := a) (c := c) hx hb
  generalize hgt a b c x k = z at *
  have key : sgV a b c x y k * z.2 = (y.1 * z.2 - z.1 * y.2) * (b k * x.2) := by
    unfold sgV
    have : z.1 * y.2 * (b k * x.2) = -(a k * x.1 + c k * x.2) * z.2 * y.2 := by
      rw [← h1]; grind
    grind
  rcases Int.lt_or_gt_of_ne hb with q | q
  · rw [if_neg (by omega)]
    have hp : 0 < -(b k) * x.2 := Int.mul_pos (by omega) hx
    have e1 : sg (sgV a b c x y k) = sg (-(y.1 * z.2 - z.1 * y.2) * (-(b k) * x.2)) := sg_eq h2 (by rw [key]; grind)
    have e2 : sg (-(y.1 * z.2 - z.1 * y.2)) = sg (-(y.1 * z.2 - z.1 * y.2) * (-(b k) * x.2)) := sg_eq hp rfl
    rw [e1, ← e2]
    generalize y.1 * z.2 - z.1 * y.2 = t
    unfold sg
    rcases Int.lt_trichotomy t 0 with w | w | w
    · rw [if_pos (by omega), if_neg (by omega), if_pos w]; rfl
    · rw [w]; rfl
    · rw [if_neg (by omega), if_pos (by omega), if_pos w]
  · rw [if_pos q]
    have hp : 0 < b k * x.2 := Int.mul_pos q hx
    have e1 : sg (sgV a b c x y k) = sg ((y.1 * z.2 - z.1 * y.2) * (b k * x.2)) := sg_eq h2 key
    have e2 : sg (y.1 * z.2 - z.1 * y.2) = sg ((y.1 * z.2 - z.1 * y.2) * (b k * x.2)) := sg_eq hp rfl
    rw [e1, ← e2]
/-- the sample of cell p against a curve's place -/
theorem sg_place {L : List Fr} (hL : fup L) {p : Nat} (hp : p ≤ 2 * L.length) {h : Fr} (hin : inF h L) : sg ((smp L p).1 * h.2 - h.1 * (smp L p).2) = sg ((p : Int) - (fpc h L : Nat)) := by
  obtain ⟨j, hj, e, e2⟩ := fpc_in hL hin
  rw [e2]
  subst e
  unfold sg
  rcases Nat.lt_trichotomy p (2 * j + 1) with q | q | q
  · have := smp_lo hL hj q
    unfold flt at this
    rw [if_neg (by omega), if_pos (by omega), if_neg (by omega), if_pos (by omega)]
  · rw [q, smp_odd hj]
    rw [if_neg (by omega), if_neg (by omega), if_neg (by omega), if_neg (by omega)]
  · have := smp_hi hL hj q hp
    unfold flt at this
    rw [if_pos (by omega), if_pos (by omega)]
