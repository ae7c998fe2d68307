/-! by hand: the reference's cell, sample, sign, find -/
theorem mI_G {st : MS} {n : Nat} {a b c : Nat → Int} (hi : mI st n a b c) : mG st (MS.code st) n a b c (MS.strip st) (MS.place st) := ⟨⟨rfl, hi.1, hi.2⟩, rfl, rfl⟩
theorem mG_I {st : MS} {cd sp pp : Int32} {n : Nat} {a b c : Nat → Int} (hg : mG st cd n a b c sp pp) : mI st n a b c := ⟨hg.1.2.1, hg.1.2.2⟩
theorem q01 {q : Int32} : (0 ≤ q.toInt ∧ q.toInt ≤ 1) ↔ (q = 0 ∨ q = 1) := by
  constructor
  · intro z
    have : q.toInt = 0 ∨ q.toInt = 1 := by omega
    rcases this with e | e
    · exact Or.inl (Int32.toInt_inj.mp (by rw [e]; rfl))
    · exact Or.inr (Int32.toInt_inj.mp (by rw [e]; rfl))
  · intro z
    rcases z with rfl | rfl <;> decide
theorem q012 {q : Int32} : (0 ≤ q.toInt ∧ q.toInt ≤ 2) ↔ (q = 0 ∨ q = 1 ∨ q = 2) := by
  constructor
  · intro z
    have : q.toInt = 0 ∨ q.toInt = 1 ∨ q.toInt = 2 := by omega
    rcases this with e | e | e
    · exact Or.inl (Int32.toInt_inj.mp (by rw [e]; rfl))
    · exact Or.inr (Or.inl (Int32.toInt_inj.mp (by rw [e]; rfl)))
    · exact Or.inr (Or.inr (Int32.toInt_inj.mp (by rw [e]; rfl)))
  · intro z
    rcases z with rfl | rfl | rfl <;> decide
theorem m_lines {st : MS} {post : Int32 → MS → Prop} {n : Nat} {a b c : Nat → Int} (hi : mI st n a b c) (h : ∀ st', mI st' n a b c → MS.code st' = 0 → post (nI n) st') : w_M_lines st post := by
  unfold w_M_lines
  have := h (0, (MS.lines st), (MS.num st), (MS.cuts st), (MS.cu st), (MS.cd st), (MS.curves st), (MS.yu st), (MS.yd st), (MS.up st), (MS.down st), (MS.xu st), (MS.xd st), (MS.strip st), (MS.place st)) hi rfl
  rw [← hi.1.1] at this
  exact this
theorem m_cuts {st : MS} {post : Int32 → MS → Prop} {n : Nat} {a b c : Nat → Int} (hi : mI st n a b c) (h : ∀ st', mI st' n a b c → MS.code st' = 0 → post (nI (cutI a b c n).length) st') : w_M_cuts st post := by
  unfold w_M_cuts
  have := h (0, (MS.lines st), (MS.num st), (MS.cuts st), (MS.cu st), (MS.cd st), (MS.curves st), (MS.yu st), (MS.yd st), (MS.up st), (MS.down st), (MS.xu st), (MS.xd st), (MS.strip st), (MS.place st)) hi rfl
  rw [← hi.2.1] at this
  exact this
theorem m_cell {st : MS} {post : Int32 → MS → Prop} {x w : Int32} {n : Nat} {a b c : Nat → Int} (hi : mI st n a b c)
    (h : ∀ st' v, mI st' n a b c → MS.code st' = nI (sp_cell a b c n x w).1 → ((sp_cell a b c n x w).1 = 0 → v = jI (sp_cell a b c n x w).2) → post v st') : w_M_cell st post x w := by
  obtain ⟨hn, hlok, h15, hb⟩ := mC15 (mI_G hi)
  have ht : tot a b c n < 1000 := hb _ (Nat.le_refl _)
  have hbw := bdI w
  unfold w_M_cell
  refine m_isCell (mI_G hi) (fun y hy e st' hg hX hY => ⟨fun _ => ?_, fun z => absurd z (by decide)⟩) (fun z st' hg => ⟨fun q => absurd rfl q, fun _ => ?_⟩)
  · subst e
    obtain ⟨s1, s2, s3⟩ := sof_ok hy
    unfold sp_cell at h
    rw [if_pos (isCellI hy (by omega)), nI_tn (by omega)] at h
    refine m_in (i2l w) (l := 0) (h := 2) rfl rfl (by omega) (by omega) (by omega) (fun g => ⟨fun z => absurd z (by decide), fun _ => ?_⟩) (fun g => ⟨fun _ => ?_, fun z => absurd rfl z⟩)
    · rw [hg.2.1, hg.2.2]
      generalize sof a b c n y = s at *
      have hI := mG_I hg
      refine ⟨fun q => ⟨fun q2 => ?_, fun q2 => ?_⟩, fun q => ?_⟩
      · have q3 : w = 2 := by rcases q012.mp g with e | e | e; exact absurd e q; exact absurd e q2; exact e
        rw [if_neg q, if_neg q2, if_pos q3] at h
        have e1 : nI s - nI s / 2 * 2 = nI (s % 2) := pk_rem (d := 2) (by omega) (by decide) (by decide)
        have e2 : nI (y - fst' a b c n s) - nI (y - fst' a b c n s) / 2 * 2 = nI ((y - fst' a b c n s) % 2) := pk_rem (d := 2) (by omega) (by decide) (by decide)
        refine h _ _ hI rfl (fun _ => ?_)
        rw [e1, e2, ← jI_nI, ← jI_nI, show (2 : Int32) = jI 2 from rfl, jI_sub, jI_sub]
      · rw [if_neg q, if_pos q2] at h
        exact h _ _ hI rfl (fun _ => by rw [← jI_nI])
      · rw [if_pos q] at h
        exact h _ _ hI rfl (fun _ => by rw [← jI_nI])
    · have q : ¬ (w = 0 ∨ w = 1 ∨ w = 2) := fun z => g (q012.mpr z)
      rw [if_neg (fun e => q (Or.inl e)), if_neg (fun e => q (Or.inr (Or.inl e))), if_neg (fun e => q (Or.inr (Or.inr e)))] at h
      exact h _ 0 ⟨hg.1.2.1, hg.1.2.2⟩ rfl (fun z => absurd z (by decide))
  · unfold sp_cell at h
    rw [if_neg (notCell (by omega) z)] at h
    exact h _ 0 ⟨hg.1.2.1, hg.1.2.2⟩ rfl (fun z => absurd z (by decide))
theorem m_sample {st : MS} {post : Int64 → MS → Prop} {x l q : Int32} {n : Nat} {a b c : Nat → Int} (hi : mI st n a b c)
    (h : ∀ st' v, mI st' n a b c → MS.code st' = nI (sp_sample a b c n x l q).1 → ((sp_sample a b c n x l q).1 = 0 → v = jL (sp_sample a b c n x l q).2) → post v st') : w_M_sample st post x l q := by
  obtain ⟨hn, hlok, h15, hb⟩ := mC15 (mI_G hi)
  have ht : tot a b c n < 1000 := hb _ (Nat.le_refl _)
  have hbl := bdI l
  have hbq := bdI q
  unfold w_M_sample
  refine m_isCell (mI_G hi) (fun y hy e st' hg hX hY => ⟨fun _ => ?_, fun z => absurd z (by decide)⟩) (fun z st' hg => ⟨fun q => absurd rfl q, fun _ => ?_⟩)
  · subst e
    obtain ⟨s1, s2, s3⟩ := sof_ok hy
    unfold sp_sample at h
    rw [if_pos (isCellI hy (by omega)), nI_tn (by omega)] at h
    refine m_in (i2l l) (l := 0) (h := 1) rfl rfl (by omega) (by omega) (by omega) (fun g => ⟨fun z => absurd z (by decide), fun _ => ?_⟩) (fun g => ⟨fun _ => ?_, fun z => absurd rfl z⟩)
    · refine m_in (i2l q) (l := 0) (h := 1) rfl rfl (by omega) (by omega) (by omega) (fun g2 => ⟨fun z => absurd z (by decide), fun _ => ?_⟩) (fun g2 => ⟨fun _ => ?_, fun z => absurd rfl z⟩)
      · rw [if_pos ⟨q01.mp g, q01.mp g2⟩] at h
        refine ⟨fun z => ?_, fun z => ?_⟩
        · refine m_sY (L := crv a b c n (sof a b c n y)) (p := y - fst' a b c n (sof a b c n y)) hY hg.2.2 (by rw [fst'] at s3; omega) ?_
          unfold w_M_told
          rw [if_neg z] at h
          refine ⟨fun w => h _ _ ⟨hg.1.2.1, hg.1.2.2⟩ rfl (fun _ => ?_), fun w => h _ _ ⟨hg.1.2.1, hg.1.2.2⟩ rfl (fun _ => ?_)⟩
          · unfold fprt; rw [if_neg w]; rfl
          · unfold fprt; rw [if_pos w]; rfl
        · have hsm := smp_sm (cutI_sm hlok n (Nat.le_refl n)) (sof a b c n y) s1
          obtain ⟨x1, x2, x3⟩ := id hsm
          rw [hX.1, hX.2]
          refine m_low (by omega) (by omega) (by omega) ?_
          unfold w_M_told
          rw [if_pos z] at h
          have hok : fok (smp (cutI a b c n) (sof a b c n y)) := smp_fok (cutC hlok) s1
          rw [hok.2]
          refine ⟨fun w => h _ _ ⟨hg.1.2.1, hg.1.2.2⟩ rfl (fun _ => ?_), fun w => h _ _ ⟨hg.1.2.1, hg.1.2.2⟩ rfl (fun _ => ?_)⟩
          · unfold fprt; rw [if_neg w]; rfl
          · unfold fprt; rw [if_pos w]; rfl
      · rw [if_neg (fun w => g2 (q01.mpr w.2))] at h
        exact h _ 0 ⟨hg.1.2.1, hg.1.2.2⟩ rfl (fun z => absurd z (by decide))
    · rw [if_neg (fun w => g (q01.mpr w.1))] at h
      exact h _ 0 ⟨hg.1.2.1, hg.1.2.2⟩ rfl (fun z => absurd z (by decide))
  · unfold sp_sample at h
    rw [if_neg (notCell (by omega) z)] at h
    exact h _ 0 ⟨hg.1.2.1, hg.1.2.2⟩ rfl (fun z => absurd z (by decide))
theorem crv_sm {n : Nat} {a b c : Nat → Int} {L : List Fr} {st : MS} (hY : mY st L) : fsmL 130000 L := hY.1.2.2.1
theorem m_sign {st : MS} {post : Int32 → MS → Prop} {x k : Int32} {n : Nat} {a b c : Nat → Int} (hi : mI st n a b c)
    (h : ∀ st' v, mI st' n a b c → MS.code st' = nI (sp_sign a b c n x k).1 → ((sp_sign a b c n x k).1 = 0 → v = jI (sp_sign a b c n x k).2) → post v st') : w_M_sign st post x k := by
  obtain ⟨hn, hlok, h15, hb⟩ := mC15 (mI_G hi)
  have ht : tot a b c n < 1000 := hb _ (Nat.le_refl _)
  have hbk := bdI k
  unfold w_M_sign
  refine m_isCell (mI_G hi) (fun y hy e st' hg hX hY => ⟨fun z => absurd z (by decide), fun _ => ?_⟩) (fun z st' hg => ⟨fun _ => ?_, fun q => absurd rfl q⟩)
  · subst e
    obtain ⟨s1, s2, s3⟩ := sof_ok hy
    refine m_in (i2l k) (l := 0) (h := (n : Int) - 1) rfl (by rw [hg.1.2.1.1, nI_m1, jI_l (by omega)]) (by omega) (by omega) (by omega) (fun g => ⟨fun z => absurd z (by decide), fun _ => ?_⟩) (fun g => ⟨fun _ => ?_, fun z => absurd rfl z⟩)
    · unfold sp_sign at h
      rw [if_pos ⟨isCellI hy (by omega), by omega⟩, nI_tn (by omega)] at h
      have hk : k.toInt.toNat < n := by omega
      have e : k = nI k.toInt.toNat := Int32.toInt_inj.mp (by rw [nI_toInt (by omega)]; omega)
      generalize k.toInt.toNat = j at *
      subst e
      have hpp : y - fst' a b c n (sof a b c n y) ≤ 2 * (crv a b c n (sof a b c n y)).length := by rw [fst'] at s3; omega
      refine m_sY (L := crv a b c n (sof a b c n y)) (p := y - fst' a b c n (sof a b c n y)) hY hg.2.2 hpp ?_
      refine m_sg (x := smp (cutI a b c n) (sof a b c n y)) (y := smp (crv a b c n (sof a b c n y)) (y - fst' a b c n (sof a b c n y))) hg.1.2.1 hX (smp_sm (cutI_sm hlok n (Nat.le_refl n)) _ s1) (smp_smY hY.1.2.2.1 _ hpp) rfl rfl hk ?_
      exact h _ _ ⟨hg.1.2.1, hg.1.2.2⟩ rfl (fun _ => rfl)
    · unfold sp_sign at h
      rw [if_neg (fun w => g (by omega))] at h
      exact h _ 0 ⟨hg.1.2.1, hg.1.2.2⟩ rfl (fun z => absurd z (by decide))
  · unfold sp_sign at h
    rw [if_neg (fun w => notCell (by omega) z w.1)] at h
    exact h _ 0 ⟨hg.1.2.1, hg.1.2.2⟩ rfl (fun z => absurd z (by decide))
/-! find -/
theorem mfp_loop {post : Int32 → MS → Prop} {K : MS → Int32 → Int32 → Int32 → Prop} {n s : Nat} {sp : Int32} {a b c : Nat → Int} {v : Int32} (hs : s ≤ 2 * (cutI a b c n).length) : ∀ m p, p + m = 2 * (crv a b c n s).length + 1 → (∀ x, fndP a b c n s v m p = some x → ∀ st, mI st n a b c → MS.code st = 0 → post (nI x) st) → (fndP a b c n s v m p = none → ∀ st pp, mG st 0 n a b c sp pp → K st v (nI (fst' a b c n (s + 1))) (nI (s + 1))) → ∀ st, mG st 0 n a b c sp (nI p) → mX st (smp (cutI a b c n) s) → mY st (crv a b c n s) → w_M_find_29 post K (m + 1) st v (nI (fst' a b c n s)) (nI s) := by
  intro m
  induction m with
  | zero =>
    intro p hp h1 h2 st hg hX hY
    have h6 := hY.2
    rw [w_M_find_29, hg.2.2, hY.1.1, two_mul]
    refine ⟨fun _ y hy => ?_, fun z => absurd (nI_lt (by omega) (by omega)) z⟩
    rw [nI_1, nI_add] at hy
    subst hy
    rw [nI_1]
    exact h2 rfl st _ hg
  | succ m ih =>
    intro p hp h1 h2 st hg hX hY
    obtain ⟨hn, hlok, h15, hb⟩ := mC15 hg
    have h6 := hY.2
    rw [w_M_find_29, hg.2.2, hY.1.1, two_mul]
    refine ⟨fun z => absurd z (nI_nlt (by omega) (by omega)), fun _ => ?_⟩
    refine m_sY (L := crv a b c n s) (p := p) hY hg.2.2 (by omega) ?_
    unfold w_M_isSo
    refine ⟨n + 1, is_loop (st := mUD st (smp (crv a b c n s) p)) (s := s) (p := p) hg.1.2.1 hX (smp_sm (cutI_sm hlok n (Nat.le_refl n)) _ hs) (smp_smY hY.1.2.2.1 _ (by omega)) rfl rfl n 0 (by omega) ?_⟩
    rw [fndP] at h1 h2
    by_cases q : okK a b c n s p v n 0 = true
    · rw [if_pos q] at h1 h2 ⊢
      refine ⟨fun z => absurd z (by decide), fun _ => ?_⟩
      have hpl : MS.place (mUD st (smp (crv a b c n s) p)) = nI p := hg.2.2
      rw [hpl, nI_add]
      exact h1 _ rfl _ ⟨hg.1.2.1, hg.1.2.2⟩ hg.1.1
    · rw [if_neg q] at h1 h2 ⊢
      refine ⟨fun _ => ?_, fun z => absurd rfl z⟩
      refine ih (p + 1) (by omega) h1 h2 _ ⟨hg.1, hg.2.1, ?_⟩ hX hY
      show MS.place (mUD st (smp (crv a b c n s) p)) + 1 = _
      have hpl : MS.place (mUD st (smp (crv a b c n s) p)) = nI p := hg.2.2
      rw [hpl, nI_1]
theorem mfs_loop {post : Int32 → MS → Prop} {n : Nat} {sp : Int32} {a b c : Nat → Int} {v : Int32} : ∀ m s, s + m = 2 * (cutI a b c n).length + 1 → (∀ st, mI st n a b c → MS.code st = 0 → post (match fndS a b c n v m s with | some x => nI x | none => -1) st) → ∀ st pp, mG st 0 n a b c sp pp → w_M_find_9 post (m + 1) st v (nI (fst' a b c n s)) (nI s) := by
  intro m
  induction m with
  | zero =>
    intro s hs h st pp hg
    obtain ⟨hn, hlok, h15, hb⟩ := mC15 hg
    rw [w_M_find_9, hg.1.2.2.1, two_mul]
    exact ⟨fun _ => h st ⟨hg.1.2.1, hg.1.2.2⟩ hg.1.1, fun z => absurd (nI_lt (by omega) (by omega)) z⟩
  | succ m ih =>
    intro s hs h st pp hg
    obtain ⟨hn, hlok, h15, hb⟩ := mC15 hg
    rw [w_M_find_9, hg.1.2.2.1, two_mul]
    refine ⟨fun z => absurd z (nI_nlt (by omega) (by omega)), fun _ => m_co hg (by omega) (fun st' hg' hX' hY' => ?_)⟩
    rw [fndS] at h
    refine ⟨2 * (crv a b c n s).length + 1 + 1, mfp_loop (s := s) (sp := sp) (by omega) (2 * (crv a b c n s).length + 1) 0 (by omega) (fun x hx => ?_) (fun hx => ?_) _ ⟨hg'.1, hg'.2.1, rfl⟩ hX' hY'⟩
    · rw [hx] at h; exact h
    · rw [hx] at h; exact fun st pp hg => ih (s + 1) (by omega) h st pp hg
theorem m_find {st : MS} {post : Int32 → MS → Prop} {n : Nat} {a b c : Nat → Int} {v : Int32} (hi : mI st n a b c) (h : ∀ st, mI st n a b c → MS.code st = 0 → post (sp_find a b c n v) st) : w_M_find st post v := by
  unfold w_M_find
  exact ⟨2 * (cutI a b c n).length + 1 + 1, mfs_loop (sp := MS.strip st) _ 0 (by omega) h _ (MS.place st) ⟨⟨rfl, hi.1, hi.2⟩, rfl, rfl⟩⟩
