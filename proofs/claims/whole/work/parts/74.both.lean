/-! class and reference side by side: for each call, one code and one value that both come to -/
theorem up0 (f : Nat → Int64) (v : Int64) : vp_updL f (0 : Int32).toNatClampNeg v (0 : Int32).toNatClampNeg = v := by
  unfold vp_updL
  rw [if_pos rfl]
theorem nI_z {x : Nat} (h : x ≤ 2) (z : nI x = 0) : x = 0 := (nI_eq (a := x) (b := 0) (by omega) (by decide)).mp z
theorem sp_cut_le (L : List Fr) (k q : Int32) : (sp_cut L k q).1 ≤ 2 := by
  unfold sp_cut
  split
  · split
    · exact Nat.zero_le _
    · exact Nat.le_refl _
  · exact Nat.le_succ _
theorem sp_curves_le (a b c : Nat → Int) (n : Nat) (s : Int32) : (sp_curves a b c n s).1 ≤ 2 := by
  unfold sp_curves
  split
  · exact Nat.zero_le _
  · exact Nat.le_succ _
theorem sp_cell_le (a b c : Nat → Int) (n : Nat) (x w : Int32) : (sp_cell a b c n x w).1 ≤ 2 := by
  unfold sp_cell
  split
  · split
    · exact Nat.zero_le _
    · split
      · exact Nat.zero_le _
      · split
        · exact Nat.zero_le _
        · exact Nat.le_refl _
  · exact Nat.le_succ _
theorem sp_sample_le (a b c : Nat → Int) (n : Nat) (x l q : Int32) : (sp_sample a b c n x l q).1 ≤ 2 := by
  unfold sp_sample
  split
  · split
    · exact Nat.zero_le _
    · exact Nat.le_refl _
  · exact Nat.le_succ _
theorem sp_sign_le (a b c : Nat → Int) (n : Nat) (x k : Int32) : (sp_sign a b c n x k).1 ≤ 2 := by
  unfold sp_sign
  split
  · exact Nat.zero_le _
  · exact Nat.le_succ _
theorem sp_touch_le (a b c : Nat → Int) (n : Nat) (x y : Int32) : (sp_touch a b c n x y).1 ≤ 2 := by
  unfold sp_touch
  split
  · exact Nat.zero_le _
  · exact Nat.le_succ _
/-- class and reference hold the same lines -/
def bInv (st : QS) (ms : MS) : Prop := ∃ (n : Nat) (a b c : Nat → Int), cInv (QS.x st) n a b c ∧ mI ms n a b c
/-- what the class's side, what the reference's side comes to -/
def pL (n : Nat) (a b c : Nat → Int) (cd : Int32) (V : Int64) : Int32 → QS → Prop := fun r u => cInv (QS.x u) n a b c ∧ r = cd ∧ (cd = 0 → QS.o u (0 : Int32).toNatClampNeg = V)
def pM {T : Type} (n : Nat) (a b c : Nat → Int) (cd : Int32) (V : T) : T → MS → Prop := fun r u => mI u n a b c ∧ MS.code u = cd ∧ (cd = 0 → r = V)
theorem b_cut {st : QS} {ms : MS} (h : bInv st ms) (p q : Int32) : ∃ (cd : Int32) (V : Int64) (n : Nat) (a b c : Nat → Int), w_L_cut st (pL n a b c cd V) p q ∧ w_M_cut ms (pM n a b c cd V) p q := by
  obtain ⟨n, a, b, c, hc, hm⟩ := h
  refine ⟨nI (sp_cut (cutI a b c n) p q).1, jL (sp_cut (cutI a b c n) p q).2, n, a, b, c, ?_, m_cut hm (fun st' v h1 h2 h3 => ⟨h1, h2, fun z => h3 (nI_z (sp_cut_le _ _ _) z)⟩)⟩
  unfold w_L_cut
  exact c_cut hc (fun e => ⟨hc, by rw [e]; rfl, fun _ => up0 (QS.o st) _⟩) (fun e => Or.inl ⟨rfl, hc, by rw [e]; rfl, fun z => absurd z (by rw [e]; decide)⟩) (fun e => Or.inr ⟨rfl, hc, by rw [e]; rfl, fun z => absurd z (by rw [e]; decide)⟩)
theorem b_curves {st : QS} {ms : MS} (h : bInv st ms) (p : Int32) : ∃ (cd V : Int32) (n : Nat) (a b c : Nat → Int), w_L_curves st (pL n a b c cd V.toInt64) p ∧ w_M_curves ms (pM n a b c cd V) p := by
  obtain ⟨n, a, b, c, hc, hm⟩ := h
  refine ⟨nI (sp_curves a b c n p).1, jI (sp_curves a b c n p).2, n, a, b, c, ?_, m_curves hm (fun st' v h1 h2 h3 => ⟨h1, h2, fun z => h3 (nI_z (sp_curves_le _ _ _ _ _) z)⟩)⟩
  unfold w_L_curves
  exact c_curves hc (fun e => ⟨hc, by rw [e]; rfl, fun _ => up0 (QS.o st) _⟩) (fun e => ⟨rfl, hc, by rw [e]; rfl, fun z => absurd z (by rw [e]; decide)⟩)
theorem b_cell {st : QS} {ms : MS} (h : bInv st ms) (p q : Int32) : ∃ (cd V : Int32) (n : Nat) (a b c : Nat → Int), w_L_cell st (pL n a b c cd V.toInt64) p q ∧ w_M_cell ms (pM n a b c cd V) p q := by
  obtain ⟨n, a, b, c, hc, hm⟩ := h
  refine ⟨nI (sp_cell a b c n p q).1, jI (sp_cell a b c n p q).2, n, a, b, c, ?_, m_cell hm (fun st' v h1 h2 h3 => ⟨h1, h2, fun z => h3 (nI_z (sp_cell_le _ _ _ _ _ _) z)⟩)⟩
  unfold w_L_cell
  exact c_cell hc (fun e => ⟨hc, by rw [e]; rfl, fun _ => up0 (QS.o st) _⟩) (fun e => Or.inl ⟨rfl, hc, by rw [e]; rfl, fun z => absurd z (by rw [e]; decide)⟩) (fun e => Or.inr ⟨rfl, hc, by rw [e]; rfl, fun z => absurd z (by rw [e]; decide)⟩)
theorem b_sample {st : QS} {ms : MS} (h : bInv st ms) (p q r : Int32) : ∃ (cd : Int32) (V : Int64) (n : Nat) (a b c : Nat → Int), w_L_sample st (pL n a b c cd V) p q r ∧ w_M_sample ms (pM n a b c cd V) p q r := by
  obtain ⟨n, a, b, c, hc, hm⟩ := h
  refine ⟨nI (sp_sample a b c n p q r).1, jL (sp_sample a b c n p q r).2, n, a, b, c, ?_, m_sample hm (fun st' v h1 h2 h3 => ⟨h1, h2, fun z => h3 (nI_z (sp_sample_le _ _ _ _ _ _ _) z)⟩)⟩
  unfold w_L_sample
  exact c_sample hc (fun e st' h' => ⟨h', by rw [e]; rfl, fun _ => up0 (QS.o st) _⟩) (fun e => Or.inl ⟨rfl, hc, by rw [e]; rfl, fun z => absurd z (by rw [e]; decide)⟩) (fun e => Or.inr ⟨rfl, hc, by rw [e]; rfl, fun z => absurd z (by rw [e]; decide)⟩)
theorem b_sign {st : QS} {ms : MS} (h : bInv st ms) (p q : Int32) : ∃ (cd V : Int32) (n : Nat) (a b c : Nat → Int), w_L_sign st (pL n a b c cd V.toInt64) p q ∧ w_M_sign ms (pM n a b c cd V) p q := by
  obtain ⟨n, a, b, c, hc, hm⟩ := h
  refine ⟨nI (sp_sign a b c n p q).1, jI (sp_sign a b c n p q).2, n, a, b, c, ?_, m_sign hm (fun st' v h1 h2 h3 => ⟨h1, h2, fun z => h3 (nI_z (sp_sign_le _ _ _ _ _ _) z)⟩)⟩
  unfold w_L_sign
  exact c_sign hc (fun e => ⟨hc, by rw [e]; rfl, fun _ => up0 (QS.o st) _⟩) (fun e => ⟨rfl, hc, by rw [e]; rfl, fun z => absurd z (by rw [e]; decide)⟩)
theorem b_touch {st : QS} {ms : MS} (h : bInv st ms) (p q : Int32) : ∃ (cd V : Int32) (n : Nat) (a b c : Nat → Int), w_L_touch st (pL n a b c cd (if V = 0 then 0 else 1)) p q ∧ w_M_touch ms (pM n a b c cd V) p q := by
  obtain ⟨n, a, b, c, hc, hm⟩ := h
  refine ⟨nI (sp_touch a b c n p q).1, jI (sp_touch a b c n p q).2, n, a, b, c, ?_, m_touch hm (fun st' v h1 h2 h3 => ⟨h1, h2, fun z => h3 (nI_z (sp_touch_le _ _ _ _ _ _) z)⟩)⟩
  unfold w_L_touch
  exact c_touch hc (fun e => ⟨fun w => ⟨hc, by rw [e]; rfl, fun _ => by rw [if_pos w]; exact up0 (QS.o st) _⟩, fun w => ⟨hc, by rw [e]; rfl, fun _ => by rw [if_neg w]; exact up0 (QS.o st) _⟩⟩) (fun e => ⟨rfl, hc, by rw [e]; rfl, fun z => absurd z (by rw [e]; decide)⟩)
theorem b_at {st : QS} {ms : MS} (h : bInv st ms) (p q r s : Int32) : ∃ (cd V : Int32) (n : Nat) (a b c : Nat → Int), w_L_at st (pL n a b c cd V.toInt64) p q r s ∧ w_M_at ms (pM n a b c cd V) p q r s := by
  obtain ⟨n, a, b, c, hc, hm⟩ := h
  by_cases g : gA p q r s
  · refine ⟨0, nI (sp_at a b c n p.toInt q.toInt r.toInt s.toInt), n, a, b, c, ?_, m_at hm (fun _ st' h1 h2 => ⟨h1, h2, fun _ => rfl⟩) (fun z => absurd g z)⟩
    unfold w_L_at
    exact c_at hc (fun _ st' h' => ⟨h', rfl, fun _ => up0 (QS.o st) _⟩) (fun z => absurd g z)
  · refine ⟨1, 0, n, a, b, c, ?_, m_at hm (fun z => absurd z g) (fun _ st' h1 h2 => ⟨h1, h2, fun z => absurd z (by decide)⟩)⟩
    unfold w_L_at
    exact c_at hc (fun z => absurd z g) (fun _ => ⟨rfl, hc, rfl, fun z => absurd z (by decide)⟩)
theorem b_line {st : QS} {ms : MS} (h : bInv st ms) (p q r : Int32) : ∃ (cd V : Int32) (n : Nat) (a b c : Nat → Int), w_L_line st (pL n a b c cd V.toInt64) p q r ∧ w_M_line ms (pM n a b c cd V) p q r := by
  obtain ⟨n, a, b, c, hc, hm⟩ := h
  have hn := hc.1.2.1
  by_cases g : gL p q r
  · by_cases h6 : n < 6
    · refine ⟨0, nI n, n + 1, exN a n p.toInt, exN b n q.toInt, exN c n r.toInt, ?_, m_line hm (fun _ _ st' h1 h2 => ⟨h1, h2, fun _ => rfl⟩) (fun z => absurd g z) (fun _ z => absurd h6 (by omega))⟩
      unfold w_L_line
      exact c_line hc (fun _ _ st' h' => ⟨h', rfl, fun _ => up0 (QS.o st) _⟩) (fun z => absurd g z) (fun _ z => absurd h6 (by omega))
    · refine ⟨2, 0, n, a, b, c, ?_, m_line hm (fun _ z => absurd z h6) (fun z => absurd g z) (fun _ _ st' h1 h2 => ⟨h1, h2, fun z => absurd z (by decide)⟩)⟩
      unfold w_L_line
      exact c_line hc (fun _ z => absurd z h6) (fun z => absurd g z) (fun _ _ => Or.inr ⟨rfl, hc, rfl, fun z => absurd z (by decide)⟩)
  · refine ⟨1, 0, n, a, b, c, ?_, m_line hm (fun z => absurd z g) (fun _ st' h1 h2 => ⟨h1, h2, fun z => absurd z (by decide)⟩) (fun z => absurd z g)⟩
    unfold w_L_line
    exact c_line hc (fun z => absurd z g) (fun _ => Or.inl ⟨rfl, hc, rfl, fun z => absurd z (by decide)⟩) (fun z => absurd z g)
theorem b_drop {st : QS} {ms : MS} (h : bInv st ms) (p : Int32) : ∃ (cd : Int32) (n : Nat) (a b c : Nat → Int), w_L_drop st (fun r u => cInv (QS.x u) n a b c ∧ r = cd) p ∧ w_M_drop ms (fun u => mI u n a b c ∧ MS.code u = cd) p := by
  obtain ⟨n, a, b, c, hc, hm⟩ := h
  have hn := hc.1.2.1
  by_cases g : ∃ k, k < n ∧ p = nI k
  · obtain ⟨k, hk, e⟩ := g
    have same : ∀ k', k' < n → p = nI k' → k' = k := fun k' hk' e' => (nI_eq (by omega) (by omega)).mp (e'.symm.trans e)
    refine ⟨0, n - 1, dpN a k, dpN b k, dpN c k, ?_, m_drop hm (fun k' hk' e' st' h1 h2 => ?_) (fun z => absurd e (z k hk))⟩
    · unfold w_L_drop
      refine c_drop hc (fun k' hk' e' st' h' => ?_) (fun z => absurd e (z k hk))
      rw [same k' hk' e'] at h'
      exact ⟨h', rfl⟩
    · rw [same k' hk' e'] at h1
      exact ⟨h1, h2⟩
  · refine ⟨1, n, a, b, c, ?_, m_drop hm (fun k' hk' e' => absurd ⟨k', hk', e'⟩ g) (fun _ st' h1 h2 => ⟨h1, h2⟩)⟩
    unfold w_L_drop
    exact c_drop hc (fun k' hk' e' => absurd ⟨k', hk', e'⟩ g) (fun _ => ⟨rfl, hc, rfl⟩)
theorem b_cuts {st : QS} {ms : MS} (h : bInv st ms) : ∃ V : Int32, w_C_cuts (QS.x st) (fun r => r = V) ∧ w_M_cuts ms (fun r u => bInv st u ∧ r = V) := by
  obtain ⟨n, a, b, c, hc, hm⟩ := h
  exact ⟨nI (cutI a b c n).length, hc.2.1.1, m_cuts hm (fun st' h1 h2 => ⟨⟨n, a, b, c, hc, h1⟩, rfl⟩)⟩
theorem b_lines {st : QS} {ms : MS} (h : bInv st ms) : ∃ V : Int32, w_C_lines (QS.x st) (fun r => r = V) ∧ w_M_lines ms (fun r u => bInv st u ∧ r = V) := by
  obtain ⟨n, a, b, c, hc, hm⟩ := h
  exact ⟨nI n, hc.1.1, m_lines hm (fun st' h1 h2 => ⟨⟨n, a, b, c, hc, h1⟩, rfl⟩)⟩
theorem b_total {st : QS} {ms : MS} (h : bInv st ms) : ∃ V : Int32, w_C_total (QS.x st) (fun r => r = V) ∧ w_M_total ms (fun r u => bInv st u ∧ r = V) := by
  obtain ⟨n, a, b, c, hc, hm⟩ := h
  exact ⟨nI (tot a b c n), c_total hc rfl, m_total hm (fun st' h1 h2 => ⟨⟨n, a, b, c, hc, h1⟩, rfl⟩)⟩
theorem b_find {st : QS} {ms : MS} (h : bInv st ms) (p : Int32) : ∃ V : Int32, w_C_find (QS.x st) (fun r => r = V) p ∧ w_M_find ms (fun r u => bInv st u ∧ r = V) p := by
  obtain ⟨n, a, b, c, hc, hm⟩ := h
  exact ⟨sp_find a b c n p, c_find hc rfl, m_find hm (fun st' h1 h2 => ⟨⟨n, a, b, c, hc, h1⟩, rfl⟩)⟩
/-- at the start -/
def ms0 : MS := (0, 0, (fun _ => 0), 0, (fun _ => 0), (fun _ => 0), 0, (fun _ => 0), (fun _ => 0), 0, 0, 0, 0, 0, 0)
theorem b_start {x : CS} {o : Nat → Int64} (h : cInv x 0 (fun _ => 0) (fun _ => 0) (fun _ => 0)) : bInv (x, o) ms0 :=
  ⟨0, (fun _ => 0), (fun _ => 0), (fun _ => 0), h, ⟨rfl, by omega, fun i hi => absurd hi (Nat.not_lt_zero i), fun i hi => absurd hi (Nat.not_lt_zero i)⟩, rfl, fup_nil, fun j hj => absurd hj (Nat.not_lt_zero j), fun j hj => absurd hj (Nat.not_lt_zero j)⟩
