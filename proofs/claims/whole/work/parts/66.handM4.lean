/-! by hand: the reference's cells, samples, signs -/
theorem m_in {post : Int32 → Prop} {x lo hi : Int64} {v l h : Int} (hx : x = jL v) (hl : lo = jL l) (hh : hi = jL h) (iv : inL v) (il : inL l) (ih : inL h) (h1 : l ≤ v ∧ v ≤ h → post 1) (h0 : ¬ (l ≤ v ∧ v ≤ h) → post 0) : w_M_in post x lo hi := by
  unfold w_M_in
  rw [hx, hl, hh, jL_lt iv il, jL_lt ih iv]
  exact ⟨fun z => h0 (by omega), fun z => ⟨fun y => h0 (by omega), fun y => h1 (by omega)⟩⟩
theorem fst_mono (a b c : Nat → Int) (n : Nat) : ∀ s t, s ≤ t → fst' a b c n s ≤ fst' a b c n t := by
  intro s t h
  induction h with
  | refl => exact Nat.le_refl _
  | step _ ih =>
    refine Nat.le_trans ih ?_
    rw [fst']
    omega
theorem sof_uniq {a b c : Nat → Int} {n x s : Nat} (hs : s ≤ 2 * (cutI a b c n).length) (h1 : fst' a b c n s ≤ x) (h2 : x < fst' a b c n (s + 1)) : sof a b c n x = s ∧ x < tot a b c n := by
  have ht : x < tot a b c n := Nat.lt_of_lt_of_le h2 (fst_mono a b c n _ _ (by omega))
  obtain ⟨s1, s2, s3⟩ := sof_ok ht
  refine ⟨?_, ht⟩
  rcases Nat.lt_trichotomy (sof a b c n x) s with q | q | q
  · have := fst_mono a b c n _ _ (show sof a b c n x + 1 ≤ s by omega)
    omega
  · exact q
  · have := fst_mono a b c n _ _ (show s + 1 ≤ sof a b c n x by omega)
    omega
theorem mC15 {st : MS} {cd sp pp : Int32} {n : Nat} {a b c : Nat → Int} (hg : mG st cd n a b c sp pp) : n ≤ 6 ∧ lok n a b c ∧ (cutI a b c n).length ≤ 15 ∧ ∀ s, s ≤ 2 * (cutI a b c n).length + 1 → fst' a b c n s < 1000 := by
  have hn := hg.1.2.1.2.1
  have hlok := hg.1.2.1.2.2.1
  have h15 : (cutI a b c n).length ≤ 15 := Nat.le_trans (cut_ok hlok n (Nat.le_refl n)).2.1 (bdN_15 b hn)
  refine ⟨hn, hlok, h15, fun s hs => ?_⟩
  have h := fst_lt a b c n s
  have : s * (2 * n + 1) ≤ 31 * 13 := Nat.mul_le_mul (by omega) (by omega)
  omega
theorem two_mul (k : Nat) : (2 : Int32) * nI k = nI (2 * k) := pk_mul 2 k
theorem ic_loop {post : Int32 → MS → Prop} {cd sp pp : Int32} {n x : Nat} {a b c : Nat → Int} (hx31 : x < 2 ^ 31)
    (h1 : x < tot a b c n → ∀ st, mG st cd n a b c (nI (sof a b c n x)) (nI (x - fst' a b c n (sof a b c n x))) → mX st (smp (cutI a b c n) (sof a b c n x)) → mY st (crv a b c n (sof a b c n x)) → post 1 st)
    (h0 : ¬ x < tot a b c n → ∀ st, mG st cd n a b c sp pp → post 0 st) : ∀ m s, s + m = 2 * (cutI a b c n).length + 1 → fst' a b c n s ≤ x → ∀ st, mG st cd n a b c sp pp → w_M_isCell_4 post (m + 1) st (nI x) (nI (x - fst' a b c n s)) (nI s) := by
  intro m
  induction m with
  | zero =>
    intro s hs hx st hg
    obtain ⟨hn, hlok, h15, hb⟩ := mC15 hg
    rw [w_M_isCell_4, hg.1.2.2.1, two_mul]
    have e : s = 2 * (cutI a b c n).length + 1 := by omega
    refine ⟨fun _ => h0 (fun z => ?_) st hg, fun q => absurd (nI_lt (by omega) (by omega)) q⟩
    rw [e] at hx
    unfold tot at z
    omega
  | succ m ih =>
    intro s hs hx st hg
    obtain ⟨hn, hlok, h15, hb⟩ := mC15 hg
    rw [w_M_isCell_4, hg.1.2.2.1, two_mul]
    refine ⟨fun q => absurd q (nI_nlt (by omega) (by omega)), fun _ => ⟨fun q => absurd q (nI_pos (by omega)), fun _ => ?_⟩⟩
    refine m_co hg (by omega) (fun st' hg' hX' hY' => ?_)
    obtain ⟨⟨y1, -, -, -⟩, y6⟩ := id hY'
    rw [y1, two_mul, nI_ltI (by omega) (by omega)]
    refine ⟨fun q y hy => ?_, fun q => ?_⟩
    · have e1 : nI (2 * (crv a b c n s).length) + 1 = nI (2 * (crv a b c n s).length + 1) := nI_1 _
      rw [e1, pk_sub (by omega)] at hy
      subst hy
      have ef : fst' a b c n (s + 1) = fst' a b c n s + 2 * (crv a b c n s).length + 1 := rfl
      rw [nI_1, show x - fst' a b c n s - (2 * (crv a b c n s).length + 1) = x - fst' a b c n (s + 1) by omega]
      exact ih (s + 1) (by omega) (by omega) st' hg'
    · have ef : fst' a b c n (s + 1) = fst' a b c n s + 2 * (crv a b c n s).length + 1 := rfl
      obtain ⟨es, ht⟩ := sof_uniq (a := a) (b := b) (c := c) (n := n) (x := x) (s := s) (by omega) hx (by omega)
      rw [es] at h1
      exact h1 ht _ ⟨hg'.1, rfl, rfl⟩ hX' ⟨⟨rfl, hY'.1.2.1, hY'.1.2.2.1, hY'.1.2.2.2⟩, hY'.2⟩
/-- isCell -/
theorem m_isCell {st : MS} {post : Int32 → MS → Prop} {cd sp pp p : Int32} {n : Nat} {a b c : Nat → Int} (hg : mG st cd n a b c sp pp)
    (h1 : ∀ x, x < tot a b c n → p = nI x → ∀ st, mG st cd n a b c (nI (sof a b c n x)) (nI (x - fst' a b c n (sof a b c n x))) → mX st (smp (cutI a b c n) (sof a b c n x)) → mY st (crv a b c n (sof a b c n x)) → post 1 st)
    (h0 : (∀ x, x < tot a b c n → p ≠ nI x) → ∀ st, mG st cd n a b c sp pp → post 0 st) : w_M_isCell st post p := by
  obtain ⟨hn, hlok, h15, hb⟩ := mC15 hg
  have ht : tot a b c n < 1000 := hb _ (Nat.le_refl _)
  unfold w_M_isCell
  rcases nI_cases p with q | ⟨x, hx, rfl⟩
  · refine ⟨1, ?_⟩
    have hbad : ∀ x, x < tot a b c n → p ≠ nI x := fun x hx e => by rw [e] at q; exact nI_pos (by omega) q
    rw [w_M_isCell_4]
    exact ⟨fun _ => h0 hbad st hg, fun _ => ⟨fun _ => h0 hbad st hg, fun z => absurd q z⟩⟩
  · refine ⟨2 * (cutI a b c n).length + 1 + 1, ic_loop hx (fun z => h1 x z rfl) (fun z => h0 (fun y hy e => z ?_)) _ 0 (by omega) (Nat.zero_le _) st hg⟩
    have := (nI_eq hx (by omega)).mp e
    omega
/-- sampleY -/
theorem m_sY {st : MS} {post : MS → Prop} {L : List Fr} {p : Nat} (hY : mY st L) (hpl : MS.place st = nI p) (hp : p ≤ 2 * L.length) (h : post (mUD st (smp L p))) : w_M_sampleY st post := by
  obtain ⟨⟨hc, hup, hsm, hcell⟩, hlen⟩ := hY
  have hdiv : nI p / 2 = nI (p / 2) := pk_div (d := 2) (by omega) (by decide) (by decide)
  have hrem : nI p - nI p / 2 * 2 = nI (p % 2) := pk_rem (d := 2) (by omega) (by decide) (by decide)
  unfold w_M_sampleY
  rw [hpl]
  intro y hy
  rw [hrem]
  rw [hdiv] at hy
  subst hy
  have z0 : (0 : Int32) = nI 0 := rfl
  have hz : (0 : Int32).toNatClampNeg = 0 := by decide
  rw [hz, hc]
  rw [z0, nI_eq (a := L.length) (b := 0) (by omega) (by omega), nI_eq (a := p) (b := 0) (by omega) (by omega), nI_eq (a := p / 2) (b := L.length) (by omega) (by omega)]
  rw [show (nI (p % 2) = (1 : Int32)) = (nI (p % 2) = nI 1) from rfl, nI_eq (a := p % 2) (b := 1) (by omega) (by omega)]
  unfold smp at h
  refine ⟨fun h0 => ⟨fun od => ⟨fun s0 => ⟨fun ne => ?_, fun eq => ?_⟩, fun s0 => ?_⟩, fun od => ?_⟩, fun h0 => ?_⟩
  · rw [if_neg h0, if_neg s0, if_neg (by omega), if_neg od] at h
    have hm1 : nI (p / 2) - 1 = nI (p / 2 - 1) := by
      obtain ⟨k, hk⟩ : ∃ k, p / 2 = k + 1 := ⟨p / 2 - 1, by omega⟩
      rw [hk]; exact nI_pred k
    rw [hm1, nI_clamp (show p / 2 < 2 ^ 31 by omega), nI_clamp (show p / 2 - 1 < 2 ^ 31 by omega)]
    obtain ⟨f1, f2⟩ := hcell (p / 2 - 1) (by omega)
    obtain ⟨g1, g2⟩ := hcell (p / 2) (by omega)
    obtain ⟨x1, x2, x3⟩ := fsm_bd (hsm (p / 2 - 1) (by omega)) (by omega)
    obtain ⟨y1, y2, y3⟩ := fsm_bd (hsm (p / 2) (by omega)) (by omega)
    rw [f1, f2, g1, g2, jL_2, jL_mul, jL_mul, jL_add, jL_mul, jL_mul]
    refine ⟨vp_in_nI (by omega) (by decide), vp_in_nI (by omega) (by decide), ?_⟩
    generalize fg L (p / 2 - 1) = x at *
    generalize fg L (p / 2) = y at *
    have m1 := mulb (a := x.1) (b := y.2) (M := 200000) (N := 200000) x1 (by omega) (by omega)
    have m2 := mulb (a := y.1) (b := x.2) (M := 200000) (N := 200000) y1 (by omega) (by omega)
    have m3 := mulb (a := x.2) (b := y.2) (M := 200000) (N := 200000) (by omega) (by omega) (by omega)
    have m4 := Int.mul_pos x2 y2
    exact m_low (by rw [Int.mul_assoc]; omega) (by omega) (by rw [Int.mul_assoc]; omega) h
  · rw [if_neg h0, if_neg s0, if_pos (by omega)] at h
    have hm1 : nI (p / 2) - 1 = nI (L.length - 1) := by
      obtain ⟨k, hk⟩ : ∃ k, p / 2 = k + 1 := ⟨p / 2 - 1, by omega⟩
      rw [hk, show L.length - 1 = k by omega]; exact nI_pred k
    rw [hm1, nI_clamp (show L.length - 1 < 2 ^ 31 by omega)]
    obtain ⟨f1, f2⟩ := hcell (L.length - 1) (by omega)
    obtain ⟨x1, x2, x3⟩ := fsm_bd (hsm (L.length - 1) (by omega)) (by omega)
    rw [f1, f2, jL_add]
    exact ⟨vp_in_nI (by omega) (by decide), m_low (by omega) (by omega) (by omega) h⟩
  · rw [if_neg h0, if_pos s0] at h
    obtain ⟨f1, f2⟩ := hcell 0 (by omega)
    obtain ⟨x1, x2, x3⟩ := fsm_bd (hsm 0 (by omega)) (by omega)
    rw [f1, f2, jL_sub]
    exact m_low (by omega) (by omega) (by omega) h
  · rw [if_neg h0, if_neg (by omega), if_neg (by omega), if_pos od] at h
    rw [nI_clamp (show p / 2 < 2 ^ 31 by omega)]
    obtain ⟨f1, f2⟩ := hcell (p / 2) (by omega)
    obtain ⟨x1, x2, x3⟩ := fsm_bd (hsm (p / 2) (by omega)) (by omega)
    rw [f1, f2]
    refine ⟨vp_in_nI (by omega) (by decide), m_low (by omega) (by omega) (by omega) ?_⟩
    rw [(hup.1 (p / 2) (by omega)).2]
    exact h
  · rw [if_pos h0] at h
    refine m_low (u := 0) (d := 1) (by omega) (by omega) (by omega) ?_
    rw [fred01]
    exact h
theorem smp_smY {L : List Fr} (h : fsmL 130000 L) (s : Nat) (hs : s ≤ 2 * L.length) : fsm 33800000000 (smp L s) := by
  unfold smp
  split
  · exact ⟨by decide, by decide, by decide⟩
  · split
    · obtain ⟨h1, h2, h3⟩ := h 0 (by omega)
      exact fsm_red (by omega) (by omega) (by omega)
    · split
      · obtain ⟨h1, h2, h3⟩ := h (L.length - 1) (by omega)
        exact fsm_red (by omega) (by omega) (by omega)
      · split
        · obtain ⟨h1, h2, h3⟩ := h (s / 2) (by omega)
          exact ⟨by omega, h2, by omega⟩
        · obtain ⟨h1, h2, h3⟩ := h (s / 2) (by omega)
          obtain ⟨g1, g2, g3⟩ := h (s / 2 - 1) (by omega)
          generalize fg L (s / 2) = x at *
          generalize fg L (s / 2 - 1) = y at *
          have p1 := mulb (a := y.1) (b := x.2) (M := 130000) (N := 130000) (by omega) (by omega) (by omega)
          have p2 := mulb (a := x.1) (b := y.2) (M := 130000) (N := 130000) (by omega) (by omega) (by omega)
          have p3 := mulb (a := y.2) (b := x.2) (M := 130000) (N := 130000) (by omega) (by omega) (by omega)
          have p4 := Int.mul_pos g2 h2
          refine fsm_red ?_ ?_ ?_
          · rw [Int.mul_assoc]; omega
          · omega
          · rw [Int.mul_assoc]; omega
/-- signAt -/
theorem m_sg {st : MS} {post : Int32 → Prop} {n k : Nat} {a b c : Nat → Int} {x y : Fr} (hl : mLin st n a b c) (hX : mX st x) (hx : fsm 10400 x) (hy : fsm 33800000000 y) (hu : MS.up st = jL y.1) (hd : MS.down st = jL y.2) (hk : k < n) (h : post (jI (sg (sgV a b c x y k)))) : w_M_signAt st post (nI k) := by
  obtain ⟨hlc, hn, hlok, hcell⟩ := hl
  obtain ⟨e1, e2, e3⟩ := hcell k hk
  obtain ⟨l1, l2, l3, -⟩ := hlok k hk
  obtain ⟨x1, x2, x3⟩ := hx
  obtain ⟨y1, y2, y3⟩ := hy
  have hin : ∀ t, t < 18 → vp_in (nI t) 18 := fun t ht => vp_in_nI ht (by decide)
  unfold w_M_signAt
  rw [ix0, ix1, ix2, nI_clamp (show 3 * k < 2 ^ 31 by omega), nI_clamp (show 3 * k + 1 < 2 ^ 31 by omega), nI_clamp (show 3 * k + 2 < 2 ^ 31 by omega), e1, e2, e3, hX.1, hX.2, hu, hd, jI_l (show inI (a k) by omega), jI_l (show inI (b k) by omega), jI_l (show inI (c k) by omega), jL_mul, jL_mul, jL_mul, jL_mul, jL_add, jL_mul, jL_mul, jL_add]
  refine ⟨hin _ (by omega), hin _ (by omega), hin _ (by omega), fun w hw => ?_⟩
  have p1 := mulb (a := a k) (b := x.1) (M := 6) (N := 10400) l1 (by omega) (by omega)
  have q1 := mulb (a := a k * x.1) (b := y.2) (M := 62400) (N := 33800000000) (by omega) (by omega) (by omega)
  have p2 := mulb (a := b k) (b := y.1) (M := 6) (N := 33800000000) l2 (by omega) (by omega)
  have q2 := mulb (a := b k * y.1) (b := x.2) (M := 202800000000) (N := 10400) (by omega) (by omega) (by omega)
  have p3 := mulb (a := c k) (b := x.2) (M := 6) (N := 10400) l3 (by omega) (by omega)
  have q3 := mulb (a := c k * x.2) (b := y.2) (M := 62400) (N := 33800000000) (by omega) (by omega) (by omega)
  have hw' : w = jL (sgV a b c x y k) := hw
  subst hw'
  have hv : inL (sgV a b c x y k) := by unfold sgV; omega
  rw [jL_0, jL_le hv (by omega), jL_le (by omega) hv]
  unfold sg at h
  refine ⟨fun z => ⟨fun w => ?_, fun w => ?_⟩, fun z => ?_⟩
  · rw [if_neg (by omega), if_neg (by omega)] at h; exact h
  · rw [if_neg (by omega), if_pos (by omega)] at h; exact h
  · rw [if_pos (by omega)] at h; exact h
theorem is_loop {st : MS} {post : Int32 → Prop} {n s p : Nat} {a b c : Nat → Int} {v : Int32} (hl : mLin st n a b c) (hX : mX st (smp (cutI a b c n) s)) (hx : fsm 10400 (smp (cutI a b c n) s)) (hy : fsm 33800000000 (smp (crv a b c n s) p)) (hu : MS.up st = jL (smp (crv a b c n s) p).1) (hd : MS.down st = jL (smp (crv a b c n s) p).2) : ∀ m k, k + m = n → post (if okK a b c n s p v m k = true then 1 else 0) → w_M_isSo_2 st post (m + 1) v (nI k) := by
  have hlc := hl.1
  have hn := hl.2.1
  intro m
  induction m with
  | zero =>
    intro k hk h
    rw [w_M_isSo_2, hlc]
    have e : k = n := by omega
    subst e
    exact ⟨fun _ => h, fun z => absurd (nI_le (Nat.le_refl k) (by omega)) z⟩
  | succ m ih =>
    intro k hk h
    rw [w_M_isSo_2, hlc]
    refine ⟨fun z => absurd z (nI_ge (by omega) (by omega)), fun _ y hy2 => ?_⟩
    rw [two_mul] at hy2
    have hy' : y = wnt v k := hy2
    subst hy'
    rw [nI_1]
    rw [okK] at h
    refine ⟨fun z => ?_, fun z => ?_⟩
    · refine m_sg hl hX hx hy hu hd (by omega) ?_
      show (¬ wnt v k = 1 → _) ∧ (wnt v k = 1 → _)
      have hv : sgC a b c n s p k = 1 ∨ sgC a b c n s p k = 0 ∨ sgC a b c n s p k = -1 := sg_vals _
      have hw := wnt_4 v k
      have fin : ∀ r : Int32, (mt (wnt v k) (sgC a b c n s p k) ↔ jI (sgC a b c n s p k) = r) → ((jI (sgC a b c n s p k) = r → w_M_isSo_2 st post (m + 1) v (nI (k + 1))) ∧ (¬ jI (sgC a b c n s p k) = r → post 0)) := by
        intro r hr
        refine ⟨fun w => ?_, fun w => ?_⟩
        · rw [if_pos (hr.mpr w)] at h
          exact ih (k + 1) (by omega) h
        · rw [if_neg (fun y => w (hr.mp y))] at h
          exact h
      refine ⟨fun z1 => ⟨fun z2 => fin 0 ?_, fun z2 => fin (-1) ?_⟩, fun z1 => fin 1 ?_⟩
      · have w3 : wnt v k = 3 := by rcases hw with q | q | q | q; exact absurd q z; exact absurd q z1; exact absurd q z2; exact q
        constructor
        · intro q
          rcases q with q | q | q | q
          · exact absurd q z
          · exact absurd q.1 z1
          · exact absurd q.1 z2
          · rw [q.2]; rfl
        · intro q
          refine Or.inr (Or.inr (Or.inr ⟨w3, ?_⟩))
          rcases hv with e | e | e
          · rw [e] at q; exact absurd q (by decide)
          · exact e
          · rw [e] at q; exact absurd q (by decide)
      · constructor
        · intro q
          rcases q with q | q | q | q
          · exact absurd q z
          · exact absurd q.1 z1
          · rw [q.2]; rfl
          · rw [z2] at q; exact absurd q.1 (by decide)
        · intro q
          refine Or.inr (Or.inr (Or.inl ⟨z2, ?_⟩))
          rcases hv with e | e | e
          · rw [e] at q; exact absurd q (by decide)
          · rw [e] at q; exact absurd q (by decide)
          · exact e
      · constructor
        · intro q
          rcases q with q | q | q | q
          · exact absurd q z
          · rw [q.2]; rfl
          · rw [z1] at q; exact absurd q.1 (by decide)
          · rw [z1] at q; exact absurd q.1 (by decide)
        · intro q
          refine Or.inr (Or.inl ⟨z1, ?_⟩)
          rcases hv with e | e | e
          · exact e
          · rw [e] at q; exact absurd q (by decide)
          · rw [e] at q; exact absurd q (by decide)
    · rw [if_pos (Or.inl z)] at h
      exact ih (k + 1) (by omega) h
