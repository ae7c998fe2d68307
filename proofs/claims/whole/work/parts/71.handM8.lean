/-! by hand: the reference's touch -/
theorem lo_loop {post : Int32 → MS → Prop} {cd sp pp : Int32} {n s j : Nat} {a b c : Nat → Int} (hs : s ≤ 2 * (cutI a b c n).length) (hj : j < (crv a b c n s).length) (h : ∀ i st', i < n → b i ≠ 0 → hgt a b c (smp (cutI a b c n) s) i = fg (crv a b c n s) j → mG st' cd n a b c sp pp → post (nI i) st') : ∀ m i, i + m = n → (∃ i0, i ≤ i0 ∧ i0 < n ∧ b i0 ≠ 0 ∧ hgt a b c (smp (cutI a b c n) s) i0 = fg (crv a b c n s) j) → ∀ st, mG st cd n a b c sp pp → mX st (smp (cutI a b c n) s) → mY st (crv a b c n s) → w_M_lineOf_7 post (m + 1) st (nI j) (nI i) := by
  intro m
  induction m with
  | zero =>
    intro i hi hex st hg hX hY
    obtain ⟨i0, h1, h2, -, -⟩ := hex
    omega
  | succ m ih =>
    intro i hi hex st hg hX hY
    obtain ⟨hn, hlok, h15, hb⟩ := mC15 hg
    have hlin := hg.1.2.1
    obtain ⟨hlc, -, -, hcell⟩ := id hlin
    obtain ⟨e1, e2, e3⟩ := hcell i (by omega)
    obtain ⟨l1, l2, l3, l4⟩ := hlok i (by omega)
    have h6 := hY.2
    rw [w_M_lineOf_7, hlc]
    refine ⟨fun z => absurd z (nI_ge (by omega) (by omega)), fun _ => ?_⟩
    rw [ix0, ix1, nI_clamp (show 3 * i + 1 < 2 ^ 31 by omega), e2, jI_0, jI_eq (show inI (b i) by omega) (show inI 0 by omega), nI_1]
    have nxt : ¬ (b i ≠ 0 ∧ hgt a b c (smp (cutI a b c n) s) i = fg (crv a b c n s) j) → ∃ i0, i + 1 ≤ i0 ∧ i0 < n ∧ b i0 ≠ 0 ∧ hgt a b c (smp (cutI a b c n) s) i0 = fg (crv a b c n s) j := by
      intro q
      obtain ⟨i0, h1, h2, h3, h4⟩ := hex
      by_cases e : i0 = i
      · rw [e] at h3 h4; exact absurd ⟨h3, h4⟩ q
      · exact ⟨i0, by omega, h2, h3, h4⟩
    refine ⟨vp_in_nI (by omega) (by decide), fun hb => ?_, fun hb => ih (i + 1) (by omega) (nxt (fun w => w.1 hb)) st hg hX hY⟩
    have hx := smp_sm (cutI_sm hlok n (Nat.le_refl n)) s hs
    have hsm := hgt_sm hlok (show i < n by omega) hb hx
    refine m_lineAt hlin hX hx (by omega) hb ⟨vp_in_nI (by omega) (by decide), ?_⟩
    obtain ⟨⟨y1, y2, y3, y4⟩, y6⟩ := id hY
    obtain ⟨f1, f2⟩ := y4 j hj
    obtain ⟨b1, b2, b3⟩ := y3 j hj
    obtain ⟨d1, d2, d3⟩ := hsm
    have f1' : MS.yu (mUD st (hgt a b c (smp (cutI a b c n) s) i)) j = jL (fg (crv a b c n s) j).1 := f1
    have f2' : MS.yd (mUD st (hgt a b c (smp (cutI a b c n) s) i)) j = jL (fg (crv a b c n s) j).2 := f2
    have u1 : MS.up (mUD st (hgt a b c (smp (cutI a b c n) s) i)) = jL (hgt a b c (smp (cutI a b c n) s) i).1 := rfl
    have u2 : MS.down (mUD st (hgt a b c (smp (cutI a b c n) s) i)) = jL (hgt a b c (smp (cutI a b c n) s) i).2 := rfl
    rw [nI_clamp (show j < 2 ^ 31 by omega), f1', f2', u1, u2, jL_eq (by omega) (by omega), jL_eq (by omega) (by omega)]
    refine ⟨fun w => ?_, fun w => ⟨fun w2 => ?_, fun w2 => ?_⟩⟩
    · exact ih (i + 1) (by omega) (nxt (fun v => w (by rw [v.2]))) _ hg hX hY
    · exact ih (i + 1) (by omega) (nxt (fun v => w2 (by rw [v.2]))) _ hg hX hY
    · exact h i _ (by omega) hb (Prod.ext w w2) hg
theorem m_ends {st : MS} {post : Int32 → MS → Prop} {cd sp pp : Int32} {n s t : Nat} {j : Int} {a b c : Nat → Int} (hg : mG st cd n a b c sp pp) (hs : s ≤ 2 * (cutI a b c n).length) (ht : t ≤ 2 * (cutI a b c n).length) (hj : -1 ≤ j ∧ j ≤ 1000) (h : ∀ e st', isE a b c n s t j e → mG st' cd n a b c sp pp → post (jI e) st') : w_M_ends st post (nI s) (jI j) (nI t) := by
  unfold w_M_ends
  refine m_co hg hs (fun u1 hg1 hX1 hY1 y2 hy2 => ?_)
  obtain ⟨hn, hlok, h15, hb⟩ := mC15 hg1
  have h6 := hY1.2
  have hxt := smp_sm (cutI_sm hlok n (Nat.le_refl n)) t ht
  rw [hY1.1.1] at hy2
  subst hy2
  have em : (nI (crv a b c n s).length - 1).toInt64 = jL (((crv a b c n s).length : Int) - 1) := by rw [nI_m1, jI_l (by omega)]
  have ej : (jI j).toInt64 = jL j := jI_l (by omega)
  have c1 : (0 ≤ jI j) ↔ 0 ≤ j := by rw [jI_0, jI_le (by omega) (by omega)]
  have c2 : (jI j < nI (crv a b c n s).length) ↔ j < (crv a b c n s).length := by rw [← jI_nI, jI_lt (by omega) (by omega)]
  refine m_in ej (l := 0) (h := ((crv a b c n s).length : Int) - 1) rfl em (by omega) (by omega) (by omega) (fun g => ⟨fun z => absurd z (by decide), fun _ => ?_⟩) (fun g => ⟨fun _ => ?_, fun z => absurd rfl z⟩)
  · have hjj : j.toNat < (crv a b c n s).length := by omega
    have ejn : jI j = nI j.toNat := by rw [← jI_nI]; congr 1; omega
    unfold w_M_lineOf
    refine m_co hg1 hs (fun u2 hg2 hX2 hY2 => ⟨n + 1, ?_⟩)
    obtain ⟨i0, q1, q2, q3, q4⟩ := crv_src hlok hs hjj
    have key : w_M_lineOf_7 (fun r11 u10 => (w_M_curvesOf u10 (fun u12 => ((0 ≤ jI j → ((jI j < nI (crv a b c n s).length → (w_M_lineAt u12 (fun u15 => (w_M_below u15 (fun r16 => (post r16 u15)) )) r11)) ∧ (¬ jI j < nI (crv a b c n s).length → (post (MS.curves u12) u12)))) ∧ (¬ 0 ≤ jI j → (post (-1) u12)))) (nI t))) (n + 1) u2 (nI j.toNat) (nI 0) := by
      refine lo_loop (cd := cd) (sp := sp) (pp := pp) hs hjj (fun i u3 hi bi ei hg3 => ?_) n 0 (by omega) ⟨i0, Nat.zero_le _, q1, q2, q3⟩ u2 hg2 hX2 hY2
      refine m_co hg3 ht (fun u4 hg4 hX4 hY4 => ⟨fun _ => ⟨fun _ => ?_, fun z => absurd (c2.mpr (by omega)) z⟩, fun z => absurd (c1.mpr (by omega)) z⟩)
      refine m_lineAt hg4.1.2.1 hX4 hxt hi bi ?_
      refine m_below (L := crv a b c n t) (x := hgt a b c (smp (cutI a b c n) t) i) hY4 (hgt_sm hlok hi bi hxt) rfl rfl ?_
      have := h (ci a b c n t i : Nat) (mUD u4 (hgt a b c (smp (cutI a b c n) t) i)) (Or.inr (Or.inl ⟨by omega, by omega, i, hi, bi, ?_, rfl⟩)) hg4
      · rw [jI_nI] at this
        exact this
      · have hup : fup (crv a b c n s) := (hts_ok (a := a) (b := b) (c := c) (smp_fok (cutC hlok) hs).1 n).1
        unfold ci
        rw [ei]
        exact fpos_eq (by omega) (fun k hk => hup.2 _ _ hk hjj) (fun _ => flt_irr _)
    rw [← ejn] at key
    exact key
  · refine m_co hg1 ht (fun u4 hg4 hX4 hY4 => ⟨fun z => ⟨fun w => absurd (c2.mp w) (by have := c1.mp z; omega), fun w => ?_⟩, fun z => ?_⟩)
    · rw [hY4.1.1, ← jI_nI]
      exact h _ u4 (Or.inr (Or.inr ⟨by rw [c2] at w; omega, rfl⟩)) hg4
    · exact h (-1) u4 (Or.inl ⟨by rw [c1] at z; omega, rfl⟩) hg4
/-- from the open strip s, place p, to the cut t, place q -/
theorem isE_b {a b c : Nat → Int} {n s t : Nat} {j e : Int} (hl : lok n a b c) (ht : t ≤ 2 * (cutI a b c n).length) (hn : n ≤ 6) (h : isE a b c n s t j e) : -1 ≤ e ∧ e ≤ 6 := by
  have hlen : (crv a b c n t).length ≤ n := hts_len a b c _ n
  rcases h with ⟨-, h⟩ | ⟨-, -, i, hi, bi, -, h⟩ | ⟨-, h⟩
  · omega
  · have := (ci_ok hl ht hi bi).1
    omega
  · omega
theorem to_odd {st : MS} {post : Int32 → MS → Prop} {cd sp pp : Int32} {n s p t q : Nat} {a b c : Nat → Int} (hg : mG st cd n a b c sp pp) (hs : s ≤ 2 * (cutI a b c n).length) (ht : t ≤ 2 * (cutI a b c n).length) (hst : s = t + 1 ∨ t = s + 1) (ho : t % 2 = 1) (hp : p ≤ 2 * (crv a b c n s).length) (hq : q ≤ 2 * (crv a b c n t).length) (op : p % 2 = 1) (h : ∀ st', mG st' cd n a b c sp pp → post (if rchK a b c n s p t q n 0 = true then 1 else 0) st') : w_M_ends st (fun r25 u24 => ((¬ nI q = ((2 * r25) + 1) → (post 0 u24)) ∧ (nI q = ((2 * r25) + 1) → (post 1 u24)))) (nI s) (nI p / 2) (nI t) := by
  obtain ⟨hn, hlok, h15, hb⟩ := mC15 hg
  have hlen : (crv a b c n s).length ≤ n := hts_len a b c _ n
  have hlent : (crv a b c n t).length ≤ n := hts_len a b c _ n
  have hdiv : nI p / 2 = jI ((p / 2 : Nat) : Int) := by rw [jI_nI]; exact pk_div (d := 2) (by omega) (by decide) (by decide)
  rw [hdiv]
  refine m_ends hg hs ht (by omega) (fun e st' he hg' => ?_)
  have hbe := isE_b hlok ht hn he
  have hr := rch_odd (q := q) hlok hs ht hst ho hp op he
  have ev : (2 : Int32) * jI e + 1 = jI (2 * e + 1) := by rw [show (2 : Int32) = jI 2 from rfl, jI_mul, jI_1, jI_add]
  rw [ev, ← jI_nI q, jI_eq (by omega) (by omega)]
  have h' := h st' hg'
  refine ⟨fun z => ?_, fun z => ?_⟩
  · rw [if_neg (fun w => z (hr.mp w))] at h'; exact h'
  · rw [if_pos (hr.mpr z)] at h'; exact h'
theorem to_even {st : MS} {post : Int32 → MS → Prop} {cd sp pp : Int32} {n s p t q : Nat} {a b c : Nat → Int} (hg : mG st cd n a b c sp pp) (hs : s ≤ 2 * (cutI a b c n).length) (ht : t ≤ 2 * (cutI a b c n).length) (hst : s = t + 1 ∨ t = s + 1) (ho : t % 2 = 1) (hp : p ≤ 2 * (crv a b c n s).length) (hq : q ≤ 2 * (crv a b c n t).length) (op : ¬ p % 2 = 1) (h : ∀ st', mG st' cd n a b c sp pp → post (if rchK a b c n s p t q n 0 = true then 1 else 0) st') : w_M_ends st (fun r19 u18 => (w_M_ends u18 (fun r21 u20 => ((nI q < ((2 * r19) + 1) → (post 0 u20)) ∧ (¬ nI q < ((2 * r19) + 1) → ((((2 * r21) + 1) < nI q → (post 0 u20)) ∧ (¬ ((2 * r21) + 1) < nI q → (post 1 u20)))))) (nI s) (nI p / 2) (nI t))) (nI s) ((nI p / 2) - 1) (nI t) := by
  obtain ⟨hn, hlok, h15, hb⟩ := mC15 hg
  have hlen : (crv a b c n s).length ≤ n := hts_len a b c _ n
  have hlent : (crv a b c n t).length ≤ n := hts_len a b c _ n
  have hdiv : nI p / 2 = nI (p / 2) := pk_div (d := 2) (by omega) (by decide) (by decide)
  rw [hdiv, nI_m1]
  refine m_ends hg hs ht (by omega) (fun e st1 he hg1 => ?_)
  rw [← jI_nI (p / 2)]
  refine m_ends hg1 hs ht (by omega) (fun f st' hf hg' => ?_)
  have hbe := isE_b hlok ht hn he
  have hbf := isE_b hlok ht hn hf
  have hr := rch_even (q := q) hlok hs ht hst ho hp hq op he hf
  have ev : ∀ e, (2 : Int32) * jI e + 1 = jI (2 * e + 1) := fun e => by rw [show (2 : Int32) = jI 2 from rfl, jI_mul, jI_1, jI_add]
  rw [ev, ev, ← jI_nI q, jI_lt (by omega) (by omega), jI_lt (by omega) (by omega)]
  have h' := h st' hg'
  refine ⟨fun z => ?_, fun z => ⟨fun y => ?_, fun y => ?_⟩⟩
  · rw [if_neg (fun w => by have := hr.mp w; omega)] at h'; exact h'
  · rw [if_neg (fun w => by have := hr.mp w; omega)] at h'; exact h'
  · rw [if_pos (hr.mpr (by omega))] at h'; exact h'
theorem m_touch {st : MS} {post : Int32 → MS → Prop} {x y : Int32} {n : Nat} {a b c : Nat → Int} (hi : mI st n a b c)
    (h : ∀ st' v, mI st' n a b c → MS.code st' = nI (sp_touch a b c n x y).1 → ((sp_touch a b c n x y).1 = 0 → v = jI (sp_touch a b c n x y).2) → post v st') : w_M_touch st post x y := by
  obtain ⟨hn, hlok, h15, hb⟩ := mC15 (mI_G hi)
  have ht : tot a b c n < 1000 := hb _ (Nat.le_refl _)
  unfold w_M_touch
  refine m_isCell (mI_G hi) (fun x' hx e u1 hg1 hX1 hY1 => ⟨fun z => absurd z (by decide), fun _ => ?_⟩) (fun z u1 hg => ⟨fun _ => ?_, fun q => absurd rfl q⟩)
  · subst e
    refine m_isCell hg1 (fun y' hy e u4 hg4 hX4 hY4 => ⟨fun z => absurd z (by decide), fun _ y7 h7 y8 h8 => ?_⟩) (fun z u4 hg => ⟨fun _ => ?_, fun q => absurd rfl q⟩)
    · subst e
      rw [hg4.2.1] at h7
      rw [hg4.2.2] at h8
      subst h7 h8
      refine m_isCell (cd := 0) (n := n) (a := a) (b := b) (c := c) ⟨⟨rfl, hg4.1.2.1, hg4.1.2.2⟩, hg4.2.1, hg4.2.2⟩ (fun x2 hx2 e u9 hg9 hX9 hY9 y11 h11 y12 h12 => ?_) (fun z => absurd rfl (z x' hx))
      have ex : x' = x2 := (nI_eq (by omega) (by omega)).mp e
      subst ex
      rw [hg9.2.1] at h11
      rw [hg9.2.2] at h12
      subst h11 h12
      unfold sp_touch at h
      rw [if_pos ⟨isCellI hx (by omega), isCellI hy (by omega)⟩, nI_tn (by omega), nI_tn (by omega)] at h
      obtain ⟨s1, s2, s3⟩ := sof_ok hx
      obtain ⟨t1, t2, t3⟩ := sof_ok hy
      have pb : x' - fst' a b c n (sof a b c n x') ≤ 2 * (crv a b c n (sof a b c n x')).length := by rw [fst'] at s3; omega
      have qb : y' - fst' a b c n (sof a b c n y') ≤ 2 * (crv a b c n (sof a b c n y')).length := by rw [fst'] at t3; omega
      have pb2 : x' - fst' a b c n (sof a b c n x') < 1000 := by omega
      have qb2 : y' - fst' a b c n (sof a b c n y') < 1000 := by omega
      generalize x' - fst' a b c n (sof a b c n x') = p at *
      generalize y' - fst' a b c n (sof a b c n y') = q at *
      generalize sof a b c n x' = s at *
      generalize sof a b c n y' = t at *
      have hpost : ∀ v : Bool, tch a b c n s p t q = v → ∀ st' sp pp, mG st' 0 n a b c sp pp → post (if v = true then 1 else 0) st' := by
        intro v hv st' sp pp hg
        refine h st' _ ⟨hg.1.2.1, hg.1.2.2⟩ hg.1.1 (fun _ => ?_)
        rw [hv]
        cases v <;> rfl
      have er : ∀ s, s < 1000 → nI s - nI s / 2 * 2 = nI (s % 2) := fun s hs => pk_rem (d := 2) (by omega) (by decide) (by decide)
      have ed : ∀ s t : Nat, s < 1000 → t < 1000 → (nI s - nI t).toInt64 = jL ((s : Int) - t) := fun s t hs ht => by rw [← jI_nI, ← jI_nI, jI_sub, jI_l (by omega)]
      rw [er s (by omega), er p (by omega), er q (by omega), nI_eq (by omega) (by omega)]
      rw [show (1 : Int32) = nI 1 from rfl, nI_eq (a := s % 2) (b := 1) (by omega) (by omega), nI_eq (a := p % 2) (b := 1) (by omega) (by omega), nI_eq (a := q % 2) (b := 1) (by omega) (by omega)]
      unfold tch at hpost
      refine ⟨fun z => ?_, fun z => ?_⟩
      · rw [if_neg z] at hpost
        refine m_in (ed s t (by omega) (by omega)) (l := -1) (h := 1) rfl rfl (by omega) (by omega) (by omega) (fun g => ⟨fun _ => ⟨fun o => ⟨fun op => ?_, fun op => ?_⟩, fun o => ⟨fun op => ?_, fun op => ?_⟩⟩, fun w => absurd w (by decide)⟩) (fun g => ⟨fun w => absurd rfl w, fun _ => hpost false ?_ u9 _ _ hg9⟩)
        · rw [if_pos (by omega), if_neg o] at hpost
          exact to_even hg9 s1 t1 (by omega) (by omega) pb qb op (fun st' hg => hpost _ rfl st' _ _ hg)
        · rw [if_pos (by omega), if_neg o] at hpost
          exact to_odd hg9 s1 t1 (by omega) (by omega) pb qb op (fun st' hg => hpost _ rfl st' _ _ hg)
        · rw [if_pos (by omega), if_pos o] at hpost
          exact to_even hg9 t1 s1 (by omega) (by omega) qb pb op (fun st' hg => hpost _ rfl st' _ _ hg)
        · rw [if_pos (by omega), if_pos o] at hpost
          exact to_odd hg9 t1 s1 (by omega) (by omega) qb pb op (fun st' hg => hpost _ rfl st' _ _ hg)
        · rw [if_neg (by omega)]
      · rw [if_pos z] at hpost
        refine m_in (ed p q (by omega) (by omega)) (l := -1) (h := 1) rfl rfl (by omega) (by omega) (by omega) (fun g => ⟨by decide, hpost true (decide_eq_true (by omega)) u9 _ _ hg9⟩) (fun g => ⟨by decide, hpost false (decide_eq_false (by omega)) u9 _ _ hg9⟩)
    · unfold sp_touch at h
      rw [if_neg (fun w => notCell (by omega) z w.2)] at h
      exact h _ 0 ⟨hg.1.2.1, hg.1.2.2⟩ rfl (fun z => absurd z (by decide))
  · unfold sp_touch at h
    rw [if_neg (fun w => notCell (by omega) z w.1)] at h
    exact h _ 0 ⟨hg.1.2.1, hg.1.2.2⟩ rfl (fun z => absurd z (by decide))
