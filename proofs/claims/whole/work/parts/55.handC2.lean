/-! by hand: heights, strips, the whole rebuilding -/
theorem fred_bd (u d : Int) (hd : d ≠ 0) : (fred u d).1.natAbs ≤ u.natAbs ∧ (fred u d).2.natAbs ≤ d.natAbs := by
  obtain ⟨g, g0, h1, h2, -, -⟩ := fred_spec u d hd
  have hg : 1 ≤ g.natAbs := by omega
  constructor
  · calc (fred u d).1.natAbs = 1 * (fred u d).1.natAbs := by omega
      _ ≤ g.natAbs * (fred u d).1.natAbs := Nat.mul_le_mul_right _ hg
      _ = u.natAbs := by rw [← Int.natAbs_mul, ← h1]
  · calc (fred u d).2.natAbs = 1 * (fred u d).2.natAbs := by omega
      _ ≤ g.natAbs * (fred u d).2.natAbs := Nat.mul_le_mul_right _ hg
      _ = d.natAbs := by rw [← Int.natAbs_mul, ← h2]
/-- a fraction of small numbers -/
def fsm (M : Nat) (x : Fr) : Prop := x.1.natAbs ≤ M ∧ 0 < x.2 ∧ x.2.natAbs ≤ M
theorem fsm_red {M : Nat} {u d : Int} (hd : d ≠ 0) (h1 : u.natAbs ≤ M) (h2 : d.natAbs ≤ M) : fsm M (fred u d) := by
  obtain ⟨a, b⟩ := fred_bd u d hd
  exact ⟨by omega, fred_pos u d hd, by omega⟩
def fsmL (M : Nat) (L : List Fr) : Prop := ∀ j, j < L.length → fsm M (fg L j)
theorem fsmL_ins {M : Nat} {x : Fr} {L : List Fr} (hx : fsm M x) (h : fsmL M L) : fsmL M (fins x L) := by
  by_cases c : fpos x L < L.length ∧ fg L (fpos x L) = x
  · rw [fins_in c.1 c.2]; exact h
  · obtain ⟨n1, n2⟩ := fins_new c
    have := fpos_le x L
    intro j hj
    rw [n2]
    split
    · exact h j (by omega)
    · split
      · exact hx
      · exact h (j - 1) (by omega)
theorem cutJ_sm {n : Nat} {a b c : Nat → Int} {i : Nat} {L : List Fr} (hl : lok n a b c) (hi : i < n) (hL : fsmL 72 L) : ∀ j, j ≤ i → fsmL 72 (cutJ a b c i j L)
  | 0, _ => hL
  | j + 1, hj => by
    have ih := cutJ_sm hl hi hL j (by omega)
    rw [cutJ]
    split
    · exact ih
    · rename_i hd
      obtain ⟨l1, l2, l3, -⟩ := hl i hi
      obtain ⟨l1', l2', l3', -⟩ := hl j (by omega)
      have p1 := mulb (M := 6) (N := 6) l2 l3' (by omega)
      have p2 := mulb (M := 6) (N := 6) l2' l3 (by omega)
      have p3 := mulb (M := 6) (N := 6) l1 l2' (by omega)
      have p4 := mulb (M := 6) (N := 6) l1' l2 (by omega)
      exact fsmL_ins (fsm_red hd (by omega) (by omega)) ih
theorem cutI_sm {n : Nat} {a b c : Nat → Int} (hl : lok n a b c) : ∀ i, i ≤ n → fsmL 72 (cutI a b c i)
  | 0, _ => fun j hj => absurd hj (Nat.not_lt_zero j)
  | i + 1, h => by
    have ih := cutI_sm hl i (by omega)
    obtain ⟨l1, l2, l3, l4⟩ := hl i (by omega)
    rw [cutI]
    refine cutJ_sm hl (by omega) ?_ i (Nat.le_refl i)
    split
    · rename_i hb
      have ha : a i ≠ 0 := fun q => l4 ⟨q, hb⟩
      exact fsmL_ins (fsm_red ha (by omega) (by omega)) ih
    · exact ih
theorem smp_sm {L : List Fr} (h : fsmL 72 L) (s : Nat) (hs : s ≤ 2 * L.length) : fsm 10400 (smp L s) := by
  unfold smp
  split
  · exact ⟨by decide, by decide, by decide⟩
  · split
    · obtain ⟨h1, h2, h3⟩ := h 0 (by omega)
      exact fsm_red (by omega) (by omega) (by omega)
    · split
      · obtain ⟨h1, h2, h3⟩ := h (L.length - 1) (by omega)
        exact fsm_red (by omega) (by omega) (by omega)
      · split
        · obtain ⟨h1, h2, h3⟩ := h (s / 2) (by omega)
          exact ⟨by omega, h2, by omega⟩
        · obtain ⟨h1, h2, h3⟩ := h (s / 2) (by omega)
          obtain ⟨g1, g2, g3⟩ := h (s / 2 - 1) (by omega)
          generalize fg L (s / 2) = x at *
          generalize fg L (s / 2 - 1) = y at *
          have p1 := mulb (a := y.1) (b := x.2) (M := 72) (N := 72) (by omega) (by omega) (by omega)
          have p2 := mulb (a := x.1) (b := y.2) (M := 72) (N := 72) (by omega) (by omega) (by omega)
          have p3 := mulb (a := y.2) (b := x.2) (M := 72) (N := 72) (by omega) (by omega) (by omega)
          have p4 := Int.mul_pos g2 h2
          refine fsm_red ?_ ?_ ?_
          · rw [Int.mul_assoc]; omega
          · omega
          · rw [Int.mul_assoc]; omega
/-- the class's numbers for the height of line k at x -/
def hA (a b c : Nat → Int) (x : Fr) (k : Nat) : Int := if b k ≤ 0 then a k * x.1 + c k * x.2 else -(a k * x.1 + c k * x.2)
def hB (b : Nat → Int) (x : Fr) (k : Nat) : Int := (if 0 ≤ b k then b k else 0 - b k) * x.2
theorem hAB {n : Nat} {a b c : Nat → Int} {x : Fr} {k : Nat} (hl : lok n a b c) (hk : k < n) (hb : b k ≠ 0) (hx : fsm 10400 x) : fred (hA a b c x k) (hB b x k) = hgt a b c x k ∧ (-200000 ≤ hA a b c x k ∧ hA a b c x k ≤ 200000) ∧ 0 < hB b x k ∧ hB b x k ≤ 200000 := by
  obtain ⟨l1, l2, l3, -⟩ := hl k hk
  obtain ⟨x1, x2, x3⟩ := hx
  have p1 := mulb (a := a k) (b := x.1) (M := 6) (N := 10400) l1 (by omega) (by omega)
  have p2 := mulb (a := c k) (b := x.2) (M := 6) (N := 10400) l3 (by omega) (by omega)
  have p3 := mulb (a := b k) (b := x.2) (M := 6) (N := 10400) l2 (by omega) (by omega)
  unfold hA hB hgt
  rcases Int.lt_or_gt_of_ne hb with h | h
  · have q := Int.mul_pos (show 0 < -(b k) by omega) x2
    rw [if_pos (by omega), if_neg (by omega), Int.zero_sub, Int.neg_mul] at *
    refine ⟨?_, by omega, by omega, by omega⟩
    have := fred_neg (-(a k * x.1 + c k * x.2)) (b k * x.2) (by omega)
    rw [Int.neg_neg] at this
    exact this
  · have q := Int.mul_pos h x2
    rw [if_neg (by omega), if_pos (by omega)]
    exact ⟨rfl, by omega, by omega, by omega⟩
theorem c_hA {st : CS} {post : Int64 → Prop} {n : Nat} {a b c : Nat → Int} {x : Fr} {k : Nat} (hl : cLin st n a b c) (hk : k < n) (h : post (jL (hA a b c x k))) : w_C_heightAbove st post (nI k) (jL x.1) (jL x.2) := by
  obtain ⟨hlc, hn, hlok, hcell⟩ := hl
  obtain ⟨e1, e2, e3⟩ := hcell k hk
  obtain ⟨l1, l2, l3, -⟩ := hlok k hk
  unfold w_C_heightAbove
  refine ⟨vp_in_nI (by omega) (by decide), ?_⟩
  rw [nI_clamp (show k < 2 ^ 31 by omega), e1, e2, e3, jI_l (by omega), jI_l (by omega), jL_mul, jL_mul, jL_add, jI_0, jI_le (by omega) (by omega)]
  intro y hy
  subst hy
  unfold hA at h
  refine ⟨fun q => ?_, fun q => ?_⟩
  · rw [if_pos q] at h; exact h
  · rw [if_neg q] at h; rw [jL_neg]; exact h
theorem c_hB {st : CS} {post : Int64 → Prop} {n : Nat} {a b c : Nat → Int} {x : Fr} {k : Nat} (hl : cLin st n a b c) (hk : k < n) (h : post (jL (hB b x k))) : w_C_heightBelow st post (nI k) (jL x.2) := by
  obtain ⟨hlc, hn, hlok, hcell⟩ := hl
  obtain ⟨e1, e2, e3⟩ := hcell k hk
  obtain ⟨l1, l2, l3, -⟩ := hlok k hk
  unfold w_C_heightBelow
  refine ⟨vp_in_nI (by omega) (by decide), ?_⟩
  rw [nI_clamp (show k < 2 ^ 31 by omega), e2]
  unfold hB at h
  have e : (if 0 ≤ jI (b k) then jI (b k) else 0 - jI (b k)) = jI (if 0 ≤ b k then b k else 0 - b k) := by
    by_cases q : 0 ≤ b k
    · rw [if_pos q, if_pos (by rw [jI_0, jI_le (by omega) (by omega)]; exact q)]
    · rw [if_neg q, if_neg (by rw [jI_0, jI_le (by omega) (by omega)]; exact q), jI_0, jI_sub]
  rw [e, jI_l (by split <;> omega), jL_mul]
  exact h
theorem hts_len (a b c : Nat → Int) (x : Fr) : ∀ k, (hts a b c x k).length ≤ k
  | 0 => Nat.le_refl 0
  | k + 1 => by
    have := hts_len a b c x k
    rw [hts]
    split
    · omega
    · have := fins_len (hgt a b c x k) (hts a b c x k)
      omega
theorem mh_loop {st0 : CS} {post : CS → Prop} {n : Nat} {a b c : Nat → Int} {x : Fr} (hl : cLin st0 n a b c) (hx : fsm 10400 x) (h : ∀ k, kRel k (hts a b c x n) → post (CS.set_he st0 k)) : ∀ m i, i + m = n → ∀ k, kRel k (hts a b c x i) → w_C_measureHeights_11 post (m + 1) (CS.set_he st0 k) (jL x.1) (jL x.2) (nI i) := by
  obtain ⟨hlc, hn, hlok, hcell⟩ := id hl
  intro m
  induction m with
  | zero =>
    intro i hi k hk
    rw [w_C_measureHeights_11, show CS.lc (CS.set_he st0 k) = nI n from hlc]
    have e : i = n := by omega
    subst e
    exact ⟨fun _ => h k hk, fun q => absurd (nI_le (Nat.le_refl i) (by omega)) q⟩
  | succ m ih =>
    intro i hi k hk
    rw [w_C_measureHeights_11, show CS.lc (CS.set_he st0 k) = nI n from hlc]
    refine ⟨fun q => absurd q (nI_ge (by omega) (by omega)), fun _ => ⟨vp_in_nI (by omega) (by decide), ?_⟩⟩
    obtain ⟨e1, e2, e3⟩ := hcell i (by omega)
    obtain ⟨l1, l2, l3, l4⟩ := hlok i (by omega)
    have hl' : cLin (CS.set_he st0 k) n a b c := hl
    rw [nI_clamp (show i < 2 ^ 31 by omega), show CS.b (CS.set_he st0 k) i = jI (b i) from e2, jI_0, jI_eq (show inI (b i) by omega) (show inI 0 by omega), nI_1]
    refine ⟨fun hb => ih (i + 1) (by omega) k (by rw [hts, if_pos hb]; exact hk), fun hb => ?_⟩
    obtain ⟨q1, q2, q3, q4⟩ := hAB hlok (show i < n by omega) hb hx
    refine c_hA hl' (by omega) (c_hB hl' (by omega) ?_)
    have hlen := hts_len a b c x i
    refine k_ins (L := hts a b c x i) hk q2 q3 q4 (Or.inl (by omega)) (fun k' hk' => ih (i + 1) (by omega) k' ?_)
    rw [hts, if_neg hb, ← q1]
    exact hk'
/-- measureHeights -/
theorem c_mh {st : CS} {post : CS → Prop} {n : Nat} {a b c : Nat → Int} {x : Fr} (hl : cLin st n a b c) (hx : fsm 10400 x) (h : ∀ k, kRel k (hts a b c x n) → post (CS.set_he st k)) : w_C_measureHeights st post (jL x.1) (jL x.2) := by
  unfold w_C_measureHeights
  exact ⟨n + 1, mh_loop hl hx h n 0 (by omega) _ ⟨rfl, Nat.zero_le _, fup_nil, fun j hj => absurd hj (Nat.not_lt_zero j)⟩⟩
