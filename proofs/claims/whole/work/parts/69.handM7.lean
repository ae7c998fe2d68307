/-! by hand: the reference's at -/
theorem red_lo {L : List Fr} (hL : fup L) {P Q : Int} (hQ : 0 < Q) {j : Nat} (hj : j < L.length) : flt (fred P Q) (fg L j) ↔ P * (fg L j).2 < (fg L j).1 * Q := by
  obtain ⟨h1, h2⟩ := hL.1 j hj
  have := flt_red (u := P) (d := Q) (u' := (fg L j).1) (d' := (fg L j).2) hQ h1
  rw [h2] at this
  exact this
theorem red_hi {L : List Fr} (hL : fup L) {P Q : Int} (hQ : 0 < Q) {j : Nat} (hj : j < L.length) : flt (fg L j) (fred P Q) ↔ (fg L j).1 * Q < P * (fg L j).2 := by
  obtain ⟨h1, h2⟩ := hL.1 j hj
  have := flt_red (u := (fg L j).1) (d := (fg L j).2) (u' := P) (d' := Q) h1 hQ
  rw [h2] at this
  exact this
theorem at_loop {post : Int32 → MS → Prop} {st : MS} {p q r s : Int32} {L : List Fr} (hrow : mRow (MS.cuts st) (MS.cu st) (MS.cd st) 72 L) (h15 : L.length ≤ 15) (hP : gP p) (hQ : gP q) (hQ1 : 1 ≤ q.toInt) (h : ∃ z, w_M_at_163 post z st p q r s (nI (fpc (fred p.toInt q.toInt) L)) 0 0) : ∀ m t, t + m = 2 * L.length → (∀ j, 2 * j + 1 < t → j < L.length → flt (fg L j) (fred p.toInt q.toInt)) → (t % 2 = 1 → ¬ flt (fred p.toInt q.toInt) (fg L (t / 2))) → w_M_at_74 post (m + 1) st p q r s (nI t) := by
  obtain ⟨hc, hup, hsm, hcell⟩ := hrow
  unfold gP at hP hQ
  intro m
  induction m with
  | zero =>
    intro t ht h1 h2
    rw [w_M_at_74, hc, two_mul]
    refine ⟨fun _ => ?_, fun z => absurd (nI_le (by omega) (by omega)) z⟩
    have ep : fpos (fred p.toInt q.toInt) L = L.length := fpos_eq (Nat.le_refl _) (fun j hj => h1 j (by omega) hj) (fun z => absurd z (Nat.lt_irrefl _))
    have ec : fpc (fred p.toInt q.toInt) L = t := by
      unfold fpc
      rw [ep, if_neg (fun z => Nat.lt_irrefl _ z.1)]
      omega
    rw [ec] at h
    exact h
  | succ m ih =>
    intro t ht h1 h2
    rw [w_M_at_74, hc, two_mul]
    have hj : t / 2 < L.length := by omega
    have er : nI t - nI t / 2 * 2 = nI (t % 2) := pk_rem (d := 2) (by omega) (by decide) (by decide)
    have ed : nI t / 2 = nI (t / 2) := pk_div (d := 2) (by omega) (by decide) (by decide)
    obtain ⟨f1, f2⟩ := hcell _ hj
    obtain ⟨x1, x2, x3⟩ := hsm _ hj
    have m1 := mulb (a := p.toInt) (b := (fg L (t / 2)).2) (M := 100) (N := 72) (by omega) (by omega) (by omega)
    have m2 := mulb (a := (fg L (t / 2)).1) (b := q.toInt) (M := 72) (N := 100) (by omega) (by omega) (by omega)
    have r1 := red_lo hup (P := p.toInt) (Q := q.toInt) (by omega) hj
    have r2 := red_hi hup (P := p.toInt) (Q := q.toInt) (by omega) hj
    rw [er, ed, nI_clamp (show t / 2 < 2 ^ 31 by omega), f1, f2, i2l, i2l, jL_mul, jL_mul, jL_le (by omega) (by omega), jL_lt (by omega) (by omega), nI_1, show (0 : Int32) = nI 0 from rfl, nI_eq (a := t % 2) (b := 0) (by omega) (by omega)]
    have ep : ¬ flt (fg L (t / 2)) (fred p.toInt q.toInt) → fpos (fred p.toInt q.toInt) L = t / 2 := fun z => fpos_eq (by omega) (fun j hj => h1 j (by omega) (by omega)) (fun _ => z)
    have hv : vp_in (nI (t / 2)) 24 := vp_in_nI (by omega) (by decide)
    refine ⟨fun z => absurd z (nI_ge (by omega) (by omega)), fun _ => ⟨fun od => ⟨hv, fun z => ?_, fun z => ?_⟩, fun ev => ⟨hv, fun z => ?_, fun z => ?_⟩⟩⟩
    · have n1 : ¬ flt (fg L (t / 2)) (fred p.toInt q.toInt) := fun w => by rw [r2] at w; omega
      have e := fok_lt (fok_red p.toInt q.toInt (by omega)) (hup.1 _ hj) (h2 (by omega)) n1
      have ec : fpc (fred p.toInt q.toInt) L = t := by
        unfold fpc
        rw [ep n1, if_pos ⟨hj, e.symm⟩]
        omega
      rw [ec] at h
      exact h
    · refine ih (t + 1) (by omega) (fun j hj2 hj3 => ?_) (fun w => by omega)
      rcases Nat.lt_or_ge (2 * j + 1) t with w | w
      · exact h1 j w hj3
      · rw [show j = t / 2 by omega, r2]; omega
    · have n1 : ¬ flt (fg L (t / 2)) (fred p.toInt q.toInt) := fun w => by rw [r2] at w; omega
      have ec : fpc (fred p.toInt q.toInt) L = t := by
        unfold fpc
        rw [ep n1, if_neg (fun w => by
          have := r1.mpr z
          rw [w.2] at this
          exact flt_irr _ this)]
        omega
      rw [ec] at h
      exact h
    · refine ih (t + 1) (by omega) (fun j hj2 hj3 => h1 j (by omega) hj3) (fun w => ?_)
      rw [show (t + 1) / 2 = t / 2 by omega, r1]
      omega
theorem as_loop {post : Int32 → MS → Prop} {p q r s : Int32} {n : Nat} {a b c : Nat → Int} {sp pp : Int32} (hg4 : gA p q r s) (h : ∀ st, mI st n a b c → MS.code st = 0 → post (nI (sp_at a b c n p.toInt q.toInt r.toInt s.toInt)) st) (t : Nat) (et : fpc (fred p.toInt q.toInt) (cutI a b c n) = t) (ht : t ≤ 2 * (cutI a b c n).length) : ∀ m k, k + m = t → ∀ st, mG st 0 n a b c sp pp → w_M_at_163 post (m + 1) st p q r s (nI t) (nI (fst' a b c n k)) (nI k) := by
  obtain ⟨g1, g2, g3, g4, g5, g6⟩ := hg4
  unfold gP at g1 g2 g3 g4
  intro m
  induction m with
  | zero =>
    intro k hk st hg
    obtain ⟨hn, hlok, h15, hb⟩ := mC15 hg
    have e : k = t := by omega
    subst e
    rw [w_M_at_163]
    refine ⟨fun _ => ?_, fun z => absurd (nI_le (Nat.le_refl k) (by omega)) z⟩
    rw [i2l, i2l, i2l, i2l]
    refine m_fc (x := (p.toInt, q.toInt)) (cd := 0) (sp := sp) (pp := pp) (n := n) (a := a) (b := b) (c := c) ⟨hg.1, hg.2.1, hg.2.2⟩ ⟨rfl, rfl⟩ ⟨by show p.toInt.natAbs ≤ 10400; omega, by show 0 < q.toInt; omega, by show q.toInt.natAbs ≤ 10400; omega⟩ (fun st' hg' hX' hY' => ?_)
    refine m_low (by omega) (by omega) (by omega) ?_
    have hsm : fsm 130000 (fred r.toInt s.toInt) := fsm_red (by omega) (by omega) (by omega)
    refine m_below (L := hts a b c (p.toInt, q.toInt) n) (x := fred r.toInt s.toInt) hY' hsm rfl rfl ?_
    obtain ⟨⟨y1, y2, y3, y4⟩, y6⟩ := id hY'
    have hle := fpos_le (fred r.toInt s.toInt) (hts a b c (p.toInt, q.toInt) n)
    have h0 := h (mUD st' (fred r.toInt s.toInt)) ⟨hg'.1.2.1, hg'.1.2.2⟩ hg'.1.1
    unfold sp_at fpc at h0
    rw [show (if fpos (fred p.toInt q.toInt) (cutI a b c n) < (cutI a b c n).length ∧ fg (cutI a b c n) (fpos (fred p.toInt q.toInt) (cutI a b c n)) = fred p.toInt q.toInt then 2 * fpos (fred p.toInt q.toInt) (cutI a b c n) + 1 else 2 * fpos (fred p.toInt q.toInt) (cutI a b c n)) = k from et] at h0
    generalize fpos (fred r.toInt s.toInt) (hts a b c (p.toInt, q.toInt) n) = j at *
    generalize hts a b c (p.toInt, q.toInt) n = H at *
    have ey1 : MS.curves (mUD st' (fred r.toInt s.toInt)) = nI H.length := y1
    have e0 : nI (fst' a b c n k) + 2 * nI j + 0 = nI (fst' a b c n k + 2 * j) := by
      rw [two_mul, nI_add]; exact nI_add _ 0
    have e1 : nI (fst' a b c n k) + 2 * nI j + 1 = nI (fst' a b c n k + (2 * j + 1)) := by
      rw [two_mul, nI_add, nI_1]; rfl
    rw [ey1, e0, e1, nI_leI (by omega) (by omega)]
    refine ⟨fun z => ?_, fun z => ⟨vp_in_nI (by omega) (by decide), ?_⟩⟩
    · rw [if_neg (fun w => by omega)] at h0
      exact h0
    · obtain ⟨f1, f2⟩ := y4 j (by omega)
      obtain ⟨b1, b2, b3⟩ := y3 j (by omega)
      obtain ⟨d1, d2, d3⟩ := hsm
      have f1' : MS.yu (mUD st' (fred r.toInt s.toInt)) j = jL (fg H j).1 := f1
      have f2' : MS.yd (mUD st' (fred r.toInt s.toInt)) j = jL (fg H j).2 := f2
      have u1 : MS.up (mUD st' (fred r.toInt s.toInt)) = jL (fred r.toInt s.toInt).1 := rfl
      have u2 : MS.down (mUD st' (fred r.toInt s.toInt)) = jL (fred r.toInt s.toInt).2 := rfl
      rw [nI_clamp (by omega), f1', f2', u1, u2, jL_eq (by omega) (by omega), jL_eq (by omega) (by omega)]
      refine ⟨fun w => ?_, fun w => ⟨fun w2 => ?_, fun w2 => ?_⟩⟩
      · rw [if_neg (fun v => w (by rw [v.2]))] at h0
        exact h0
      · rw [if_neg (fun v => w2 (by rw [v.2]))] at h0
        exact h0
      · rw [if_pos ⟨by omega, Prod.ext w w2⟩] at h0
        exact h0
  | succ m ih =>
    intro k hk st hg
    obtain ⟨hn, hlok, h15, hb⟩ := mC15 hg
    rw [w_M_at_163]
    refine ⟨fun z => absurd z (nI_ge (by omega) (by omega)), fun _ => m_co hg (by omega) (fun st' hg' hX' hY' y hy => ?_)⟩
    rw [hY'.1.1, two_mul, nI_1, nI_add] at hy
    subst hy
    rw [nI_1]
    exact ih (k + 1) (by omega) st' hg'
theorem m_at {st : MS} {post : Int32 → MS → Prop} {p q r s : Int32} {n : Nat} {a b c : Nat → Int} (hi : mI st n a b c)
    (h0 : gA p q r s → ∀ st', mI st' n a b c → MS.code st' = 0 → post (nI (sp_at a b c n p.toInt q.toInt r.toInt s.toInt)) st') (h1 : ¬ gA p q r s → ∀ st', mI st' n a b c → MS.code st' = 1 → post 0 st') : w_M_at st post p q r s := by
  have one : (1 : Int32) ≠ 0 := by decide
  obtain ⟨hn, hlok, h15⟩ := mI_15 hi
  have bp := bdI p
  have bq := bdI q
  have br := bdI r
  have bs := bdI s
  unfold w_M_at
  refine m_in (i2l p) (l := -100) (h := 100) rfl rfl (by omega) (by omega) (by omega) (fun g1 => ⟨fun z => absurd z one, fun _ => ?_⟩) (fun g => ⟨fun _ => h1 (fun w => g w.1) _ hi rfl, fun z => absurd rfl z⟩)
  refine m_in (i2l q) (l := 1) (h := 100) rfl rfl (by omega) (by omega) (by omega) (fun g2 => ⟨fun z => absurd z one, fun _ => ?_⟩) (fun g => ⟨fun _ => h1 (fun w => g ⟨w.2.2.2.2.1, w.2.1.2⟩) _ hi rfl, fun z => absurd rfl z⟩)
  refine m_in (i2l r) (l := -100) (h := 100) rfl rfl (by omega) (by omega) (by omega) (fun g3 => ⟨fun z => absurd z one, fun _ => ?_⟩) (fun g => ⟨fun _ => h1 (fun w => g w.2.2.1) _ hi rfl, fun z => absurd rfl z⟩)
  refine m_in (i2l s) (l := 1) (h := 100) rfl rfl (by omega) (by omega) (by omega) (fun g4 => ⟨fun z => absurd z one, fun _ => ?_⟩) (fun g => ⟨fun _ => h1 (fun w => g ⟨w.2.2.2.2.2, w.2.2.2.1.2⟩) _ hi rfl, fun z => absurd rfl z⟩)
  have hg : gA p q r s := ⟨g1, ⟨by omega, by omega⟩, g3, ⟨by omega, by omega⟩, g2.1, g4.1⟩
  have ht := fpc_lt (fred p.toInt q.toInt) (cutI a b c n)
  refine ⟨2 * (cutI a b c n).length + 1, at_loop (st := (0, (MS.lines st), (MS.num st), (MS.cuts st), (MS.cu st), (MS.cd st), (MS.curves st), (MS.yu st), (MS.yd st), (MS.up st), (MS.down st), (MS.xu st), (MS.xd st), (MS.strip st), (MS.place st))) (L := cutI a b c n) hi.2 h15 hg.1 hg.2.1 g2.1 ⟨fpc (fred p.toInt q.toInt) (cutI a b c n) + 1, ?_⟩ (2 * (cutI a b c n).length) 0 (by omega) (fun j hj => absurd hj (by omega)) (fun z => absurd z (by decide))⟩
  exact as_loop (sp := MS.strip st) (pp := MS.place st) hg (h0 hg) (fpc (fred p.toInt q.toInt) (cutI a b c n)) rfl (by omega) (fpc (fred p.toInt q.toInt) (cutI a b c n)) 0 (by omega) _ ⟨⟨rfl, hi.1, hi.2⟩, rfl, rfl⟩
