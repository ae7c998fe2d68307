/-! by hand: cell, sample, line, drop, at, total -/
theorem notCell {T : Nat} {p : Int32} (hT : T < 100000) (h : ∀ x, x < T → p ≠ nI x) : ¬ (0 ≤ p.toInt ∧ p.toInt < T) := by
  intro z
  refine h p.toInt.toNat (by omega) (Int32.toInt_inj.mp ?_)
  rw [nI_toInt (by omega)]
  omega
theorem isCellI {T x : Nat} (hx : x < T) (hT : T < 100000) : 0 ≤ (nI x).toInt ∧ (nI x).toInt < T := by
  rw [nI_toInt (by omega)]
  omega
theorem nI_tn {x : Nat} (hx : x < 100000) : (nI x).toInt.toNat = x := by
  rw [nI_toInt (by omega)]
  omega
def sp_cell (a b c : Nat → Int) (n : Nat) (x w : Int32) : Nat × Int :=
  if 0 ≤ x.toInt ∧ x.toInt < tot a b c n then
    (if w = 0 then (0, (sof a b c n x.toInt.toNat : Int))
     else if w = 1 then (0, ((x.toInt.toNat - fst' a b c n (sof a b c n x.toInt.toNat) : Nat) : Int))
     else if w = 2 then (0, 2 - (sof a b c n x.toInt.toNat % 2 : Nat) - ((x.toInt.toNat - fst' a b c n (sof a b c n x.toInt.toNat)) % 2 : Nat))
     else (2, 0))
  else (1, 0)
theorem c_cell {st : CS} {post : Int32 → CS → Prop} {px : String → CS → Prop} {x w : Int32} {n : Nat} {a b c : Nat → Int} (hi : cInv st n a b c)
    (h0 : (sp_cell a b c n x w).1 = 0 → post (jI (sp_cell a b c n x w).2) st) (h1 : (sp_cell a b c n x w).1 = 1 → px eIO st) (h2 : (sp_cell a b c n x w).1 = 2 → px eIA st) : w_C_cell st post px x w := by
  have hc := hi.2.1
  have h15 := hc.2.1
  have ht : tot a b c n < 1000 := tot_lt hc hi.1.2.1 (Nat.le_refl _)
  unfold w_C_cell
  refine c_isCell hi (fun y hy e => ⟨fun _ => ?_, fun z => absurd z (by decide)⟩) (fun z => ⟨fun q => absurd rfl q, fun _ => h1 (by unfold sp_cell; rw [if_neg (notCell (by omega) z)])⟩)
  subst e
  obtain ⟨s1, s2, s3⟩ := sof_ok hy
  refine c_stripOf hi hy ⟨vp_in_nI (by omega) (by decide), fun y5 hy5 => ?_⟩
  rw [nI_clamp (by omega), hi.2.2.2 _ (by omega), pk_sub s2] at hy5
  subst hy5
  unfold sp_cell at h0 h1 h2
  rw [if_pos (isCellI hy (by omega)), nI_tn (by omega)] at h0 h1 h2
  generalize sof a b c n y = s at *
  refine ⟨fun q => ?_, fun q => ⟨fun q2 => ?_, fun q2 => ⟨fun q3 => ?_, fun q3 => ?_⟩⟩⟩
  · rw [if_pos q] at h0
    rw [← jI_nI]; exact h0 rfl
  · rw [if_neg q, if_pos q2] at h0
    rw [← jI_nI]; exact h0 rfl
  · rw [if_neg q, if_neg q2, if_pos q3] at h0
    have e1 : nI s - nI s / 2 * 2 = nI (s % 2) := pk_rem (d := 2) (by omega) (by decide) (by decide)
    have e2 : nI (y - fst' a b c n s) - nI (y - fst' a b c n s) / 2 * 2 = nI ((y - fst' a b c n s) % 2) := pk_rem (d := 2) (by omega) (by decide) (by decide)
    rw [e1, e2, ← jI_nI, ← jI_nI, show (2 : Int32) = jI 2 from rfl, jI_sub, jI_sub]
    exact h0 rfl
  · rw [if_neg q, if_neg q2, if_neg q3] at h2
    exact h2 rfl
def sp_sample (a b c : Nat → Int) (n : Nat) (x l q : Int32) : Nat × Int :=
  if 0 ≤ x.toInt ∧ x.toInt < tot a b c n then
    (if (l = 0 ∨ l = 1) ∧ (q = 0 ∨ q = 1) then
      (0, if l = 0 then fprt (smp (cutI a b c n) (sof a b c n x.toInt.toNat)) q else fprt (smp (crv a b c n (sof a b c n x.toInt.toNat)) (x.toInt.toNat - fst' a b c n (sof a b c n x.toInt.toNat))) q)
     else (2, 0))
  else (1, 0)
theorem i32_01 {l : Int32} (h0 : ¬ l < 0) (h1 : l ≤ 1) : l = 0 ∨ l = 1 := by
  obtain ⟨x, hx, rfl⟩ := nI_of h0
  have := (nI_leI (b := 1) hx (by decide)).mp h1
  have : x = 0 ∨ x = 1 := by omega
  rcases this with rfl | rfl
  · exact Or.inl rfl
  · exact Or.inr rfl
theorem cInv_he {st : CS} {n : Nat} {a b c : Nat → Int} (hi : cInv st n a b c) (k : KS) : cInv (CS.set_he st k) n a b c := hi
theorem c_sample {st : CS} {post : Int64 → CS → Prop} {px : String → CS → Prop} {x l q : Int32} {n : Nat} {a b c : Nat → Int} (hi : cInv st n a b c)
    (h0 : (sp_sample a b c n x l q).1 = 0 → ∀ st', cInv st' n a b c → post (jL (sp_sample a b c n x l q).2) st') (h1 : (sp_sample a b c n x l q).1 = 1 → px eIO st) (h2 : (sp_sample a b c n x l q).1 = 2 → px eIA st) : w_C_sample st post px x l q := by
  have hc := hi.2.1
  have h15 := hc.2.1
  have ht : tot a b c n < 1000 := tot_lt hc hi.1.2.1 (Nat.le_refl _)
  unfold w_C_sample
  refine c_isCell hi (fun y hy e => ⟨fun _ => ?_, fun z => absurd z (by decide)⟩) (fun z => ⟨fun q => absurd rfl q, fun _ => h1 (by unfold sp_sample; rw [if_neg (notCell (by omega) z)])⟩)
  subst e
  obtain ⟨s1, s2, s3⟩ := sof_ok hy
  unfold sp_sample at h0 h1 h2
  rw [if_pos (isCellI hy (by omega)), nI_tn (by omega)] at h0 h1 h2
  refine ⟨fun z => ?_, fun z => ⟨fun z2 => ?_, fun z2 => ?_⟩⟩
  · rw [if_neg (fun w => by rcases w.1 with e | e <;> rw [e] at z <;> exact absurd z (by decide))] at h2
    exact h2 rfl
  · have hl01 := i32_01 z z2
    refine isP (fun hq => ⟨fun _ => ?_, fun w => absurd w (by decide)⟩) (fun hq => ⟨fun w => absurd rfl w, fun _ => ?_⟩)
    · rw [if_pos ⟨hl01, hq⟩] at h0
      obtain ⟨k1, k2, k3⟩ := hi.2.2.1 _ s1
      refine c_stripOf hi hy ⟨fun w => ?_, fun w => ?_⟩
      · refine ⟨vp_in_nI (by omega) (by decide), ?_⟩
        rw [nI_clamp (by omega), k1, k2]
        refine c_mh hi.1 (smp_sm (cutI_sm hi.1.2.2.1 n (Nat.le_refl n)) _ s1) (fun k hk => ⟨vp_in_nI (by omega) (by decide), ?_⟩)
        rw [show CS.fc (CS.set_he st k) (sof a b c n y) = nI (fst' a b c n (sof a b c n y)) from hi.2.2.2 _ (by omega), pk_sub s2]
        refine k_smp (L := crv a b c n (sof a b c n y)) hk (by rw [fst'] at s3; omega) ?_
        have hw := h0 rfl _ (cInv_he hi k)
        rw [if_neg w] at hw
        exact hw
      · have hw := h0 rfl st hi
        rw [if_pos w] at hw
        unfold fprt at hw
        rw [nI_clamp (by omega), k1, k2]
        refine ⟨fun w2 => ⟨vp_in_nI (by omega) (by decide), ?_⟩, fun w2 => ⟨vp_in_nI (by omega) (by decide), ?_⟩⟩
        · rw [if_neg w2] at hw; exact hw
        · rw [if_pos w2] at hw; exact hw
    · rw [if_neg (fun w => hq w.2)] at h2
      exact h2 rfl
  · rw [if_neg (fun w => by rcases w.1 with e | e <;> rw [e] at z2 <;> exact absurd (by decide) z2)] at h2
    exact h2 rfl
/-- a number of a line -/
def gN (p : Int32) : Prop := -6 ≤ p.toInt ∧ p.toInt ≤ 6
theorem isF {post : Int32 → Prop} {p : Int32} (h1 : gN p → post 1) (h0 : ¬ gN p → post 0) : w_C_isFactor post p := by
  unfold w_C_isFactor gN at *
  rw [Int32.lt_iff_toInt_lt, Int32.lt_iff_toInt_lt, show ((-6 : Int32)).toInt = -6 by decide, show ((6 : Int32)).toInt = 6 by decide]
  exact ⟨fun z => h0 (by omega), fun z => ⟨fun y => h0 (by omega), fun y => h1 (by omega)⟩⟩
def exN (a : Nat → Int) (n : Nat) (v : Int) : Nat → Int := fun i => if i = n then v else a i
/-- these three are a line's -/
def gL (p q r : Int32) : Prop := gN p ∧ gN q ∧ gN r ∧ ¬ (p = 0 ∧ q = 0)
theorem cLin_ext {st : CS} {n : Nat} {a b c : Nat → Int} {p q r : Int32} (hl : cLin st n a b c) (hn : n < 6) (hg : gL p q r) : cLin (CS.set_lc (CS.set_c (CS.set_b (CS.set_a st (upd (CS.a st) n p)) (upd (CS.b st) n q)) (upd (CS.c st) n r)) (nI (n + 1))) (n + 1) (exN a n p.toInt) (exN b n q.toInt) (exN c n r.toInt) := by
  obtain ⟨hlc, -, hlok, hcell⟩ := hl
  obtain ⟨g1, g2, g3, g4⟩ := hg
  refine ⟨rfl, by omega, fun i hi => ?_, fun i hi => ?_⟩
  · unfold exN
    by_cases e : i = n
    · rw [if_pos e, if_pos e, if_pos e]
      refine ⟨g1, g2, g3, fun z => g4 ⟨?_, ?_⟩⟩
      · exact Int32.toInt_inj.mp (by rw [z.1]; rfl)
      · exact Int32.toInt_inj.mp (by rw [z.2]; rfl)
    · rw [if_neg e, if_neg e, if_neg e]
      exact hlok i (by omega)
  · show upd (CS.a st) n p i = _ ∧ upd (CS.b st) n q i = _ ∧ upd (CS.c st) n r i = _
    unfold exN
    by_cases e : i = n
    · rw [if_pos e, if_pos e, if_pos e, e, pk_us, pk_us, pk_us]
      exact ⟨jI_of p, jI_of q, jI_of r⟩
    · rw [if_neg e, if_neg e, if_neg e, pk_un e, pk_un e, pk_un e]
      exact hcell i (by omega)
theorem c_line {st : CS} {post : Int32 → CS → Prop} {px : String → CS → Prop} {p q r : Int32} {n : Nat} {a b c : Nat → Int} (hi : cInv st n a b c)
    (h0 : gL p q r → n < 6 → ∀ st', cInv st' (n + 1) (exN a n p.toInt) (exN b n q.toInt) (exN c n r.toInt) → post (nI n) st') (h1 : ¬ gL p q r → px eIA st) (h2 : gL p q r → n = 6 → px eIS st) : w_C_line st post px p q r := by
  have hl := hi.1
  have hlc := hl.1
  have hn := hl.2.1
  have one : (1 : Int32) ≠ 0 := by decide
  have go : gL p q r → (((CS.lc st) < 6 → (∀ y9 : Int32, y9 = (CS.lc st) → (vp_in y9 6 ∧ (w_C_rebuild (CS.set_lc (CS.set_c (CS.set_b (CS.set_a st (upd (CS.a st) y9.toNatClampNeg p)) (upd (CS.b st) y9.toNatClampNeg q)) (upd (CS.c st) y9.toNatClampNeg r)) (y9 + 1)) (fun u11 => (post y9 u11)) )))) ∧ (¬ (CS.lc st) < 6 → (px eIS st))) := by
    intro hg
    rw [hlc]
    refine ⟨fun z y hy => ?_, fun z => h2 hg ?_⟩
    · have hn6 := (nI_ltI (b := 6) (by omega) (by decide)).mp z
      subst hy
      refine ⟨vp_in_nI hn6 (by decide), ?_⟩
      rw [nI_clamp (by omega), nI_1]
      exact c_rb (cLin_ext hl hn6 hg) (fun st' hs => h0 hg hn6 st' hs)
    · rcases Nat.lt_or_ge n 6 with y | y
      · exact absurd (nI_lt (b := 6) y (by decide)) z
      · omega
  unfold w_C_line
  refine isF (fun g1 => ⟨fun z => absurd z one, fun _ => ?_⟩) (fun g => ⟨fun _ => h1 (fun w => g w.1), fun z => absurd rfl z⟩)
  refine isF (fun g2 => ⟨fun z => absurd z one, fun _ => ?_⟩) (fun g => ⟨fun _ => h1 (fun w => g w.2.1), fun z => absurd rfl z⟩)
  refine isF (fun g3 => ⟨fun _ => ?_, fun z => absurd z one⟩) (fun g => ⟨fun z => absurd rfl z, fun _ => h1 (fun w => g w.2.2.1)⟩)
  refine ⟨fun z => go ⟨g1, g2, g3, fun w => z w.1⟩, fun z => ⟨fun y => go ⟨g1, g2, g3, fun w => y w.2⟩, fun y => h1 (fun w => w.2.2.2 ⟨z, y⟩)⟩⟩
