/-! by hand: the class's small readers -/
/-- how many cells there are -/
def tot (a b c : Nat → Int) (n : Nat) : Nat := fst' a b c n (2 * (cutI a b c n).length + 1)
/-- the strip of a cell -/
def sofA (f : Nat → Nat) (x : Nat) : Nat → Nat → Nat
  | 0, s => s
  | m + 1, s => if x < f (s + 1) then s else sofA f x m (s + 1)
def sof (a b c : Nat → Int) (n x : Nat) : Nat := sofA (fst' a b c n) x (2 * (cutI a b c n).length) 0
theorem sofA_ok {f : Nat → Nat} {x : Nat} : ∀ m s, f s ≤ x → x < f (s + m + 1) → s ≤ sofA f x m s ∧ sofA f x m s ≤ s + m ∧ f (sofA f x m s) ≤ x ∧ x < f (sofA f x m s + 1)
  | 0, s, h1, h2 => ⟨Nat.le_refl _, Nat.le_refl _, h1, h2⟩
  | m + 1, s, h1, h2 => by
    unfold sofA
    by_cases c : x < f (s + 1)
    · rw [if_pos c]; exact ⟨Nat.le_refl _, by omega, h1, c⟩
    · rw [if_neg c]
      obtain ⟨g1, g2, g3, g4⟩ := sofA_ok (f := f) (x := x) m (s + 1) (by omega) (by rw [show s + 1 + m + 1 = s + (m + 1) + 1 by omega]; exact h2)
      exact ⟨by omega, by omega, g3, g4⟩
theorem sof_ok {a b c : Nat → Int} {n x : Nat} (hx : x < tot a b c n) : sof a b c n x ≤ 2 * (cutI a b c n).length ∧ fst' a b c n (sof a b c n x) ≤ x ∧ x < fst' a b c n (sof a b c n x + 1) := by
  obtain ⟨-, g2, g3, g4⟩ := sofA_ok (f := fst' a b c n) (x := x) (2 * (cutI a b c n).length) 0 (Nat.zero_le _) (by rw [Nat.zero_add]; exact hx)
  exact ⟨by unfold sof; omega, g3, g4⟩
theorem tot_lt {st : CS} {a b c : Nat → Int} {n : Nat} (hc : kRel (CS.cu st) (cutI a b c n)) (hn : n ≤ 6) {s : Nat} (hs : s ≤ 2 * (cutI a b c n).length + 1) : fst' a b c n s < 1000 := by
  have h := fst_lt a b c n s
  have h15 := hc.2.1
  have : s * (2 * n + 1) ≤ 31 * 13 := Nat.mul_le_mul (by omega) (by omega)
  omega
theorem nI_cases (p : Int32) : p < 0 ∨ ∃ x : Nat, x < 2 ^ 31 ∧ p = nI x := by
  by_cases h : p < 0
  · exact Or.inl h
  · exact Or.inr (nI_of h)
theorem c_isLine {st : CS} {post : Int32 → Prop} {p : Int32} {n : Nat} {a b c : Nat → Int} (hl : cLin st n a b c) (h1 : ∀ x, x < n → p = nI x → post 1) (h0 : (∀ x, x < n → p ≠ nI x) → post 0) : w_C_isLine st post p := by
  obtain ⟨hlc, hn, -, -⟩ := hl
  unfold w_C_isLine
  rw [hlc]
  refine ⟨fun q => h0 (fun x hx e => ?_), fun q => ⟨fun q2 => h0 (fun x hx e => ?_), fun q2 => ?_⟩⟩
  · rw [e] at q; exact nI_pos (by omega) q
  · rw [e] at q2; exact nI_ge hx (by omega) q2
  · obtain ⟨x, hx, rfl⟩ := nI_of q
    exact h1 x (by rcases Nat.lt_or_ge x n with z | z; exact z; exact absurd (nI_le z hx) q2) rfl
theorem c_sc {st : CS} {post : Int32 → Prop} {L : List Fr} (hc : kRel (CS.cu st) L) (h : post (nI (2 * L.length + 1))) : w_C_stripCount st post := by
  unfold w_C_stripCount
  rw [hc.1]
  have e : (2 : Int32) * nI L.length = nI (2 * L.length) := pk_mul 2 _
  rw [e, nI_1]
  exact h
theorem c_isCell {st : CS} {post : Int32 → Prop} {p : Int32} {n : Nat} {a b c : Nat → Int} (hi : cInv st n a b c) (h1 : ∀ x, x < tot a b c n → p = nI x → post 1) (h0 : (∀ x, x < tot a b c n → p ≠ nI x) → post 0) : w_C_isCell st post p := by
  obtain ⟨hl, hc, hs, hf⟩ := hi
  have h15 := hc.2.1
  have ht : tot a b c n < 1000 := tot_lt hc hl.2.1 (Nat.le_refl _)
  unfold w_C_isCell
  refine ⟨fun q => h0 (fun x hx e => ?_), fun q => c_sc hc ⟨vp_in_nI (by omega) (by decide), ?_⟩⟩
  · rw [e] at q; exact nI_pos (by omega) q
  · rw [nI_clamp (by omega), hf _ (Nat.le_refl _)]
    show (nI (tot a b c n) ≤ p → _) ∧ (¬ nI (tot a b c n) ≤ p → _)
    refine ⟨fun q2 => h0 (fun x hx e => ?_), fun q2 => ?_⟩
    · rw [e] at q2; exact nI_ge hx (by omega) q2
    · obtain ⟨x, hx, rfl⟩ := nI_of q
      exact h1 x (by rcases Nat.lt_or_ge x (tot a b c n) with z | z; exact z; exact absurd (nI_le z hx) q2) rfl
theorem c_cellsOf {st : CS} {post : Int32 → Prop} {s n : Nat} {a b c : Nat → Int} (hi : cInv st n a b c) (hs : s ≤ 2 * (cutI a b c n).length) (h : post (nI (2 * (crv a b c n s).length + 1))) : w_C_cellsOf st post (nI s) := by
  obtain ⟨hl, hc, -, hf⟩ := hi
  have h15 := hc.2.1
  unfold w_C_cellsOf
  rw [nI_1, nI_clamp (by omega), nI_clamp (by omega), hf _ (by omega), hf _ (by omega), pk_sub (by rw [fst']; omega)]
  refine ⟨vp_in_nI (by omega) (by decide), vp_in_nI (by omega) (by decide), ?_⟩
  rw [show fst' a b c n (s + 1) - fst' a b c n s = 2 * (crv a b c n s).length + 1 by rw [fst']; omega]
  exact h
theorem so_loop {st : CS} {post : Int32 → Prop} {n x : Nat} {a b c : Nat → Int} (hi : cInv st n a b c) (hx : x < tot a b c n) : ∀ m s, s + m = 2 * (cutI a b c n).length → post (nI (sofA (fst' a b c n) x m s)) → w_C_stripOf_9 st post (m + 1) (nI x) (nI (2 * (cutI a b c n).length)) (nI s) := by
  obtain ⟨hl, hc, hs, hf⟩ := hi
  have h15 := hc.2.1
  have ht : tot a b c n < 1000 := tot_lt hc hl.2.1 (Nat.le_refl _)
  intro m
  induction m with
  | zero =>
    intro s e h
    rw [w_C_stripOf_9]
    have e' : s = 2 * (cutI a b c n).length := by omega
    rw [← e']
    exact ⟨fun _ => h, fun q => absurd (nI_le (Nat.le_refl _) (by omega)) q⟩
  | succ m ih =>
    intro s e h
    rw [w_C_stripOf_9]
    have hb : fst' a b c n (s + 1) < 1000 := tot_lt hc hl.2.1 (by omega)
    refine ⟨fun q => absurd q (nI_ge (by omega) (by omega)), fun _ => ⟨by rw [nI_1]; exact vp_in_nI (by omega) (by decide), ?_⟩⟩
    rw [nI_1, nI_clamp (by omega), hf _ (by omega)]
    rw [sofA] at h
    refine ⟨fun q => ?_, fun q => ?_⟩
    · have q' := (nI_leI (by omega) (by omega)).mp q
      rw [if_neg (by omega)] at h
      exact ih (s + 1) (by omega) h
    · have q' : ¬ fst' a b c n (s + 1) ≤ x := fun z => q ((nI_leI (by omega) (by omega)).mpr z)
      rw [if_pos (by omega)] at h
      exact h
theorem c_stripOf {st : CS} {post : Int32 → Prop} {n x : Nat} {a b c : Nat → Int} (hi : cInv st n a b c) (hx : x < tot a b c n) (h : post (nI (sof a b c n x))) : w_C_stripOf st post (nI x) := by
  unfold w_C_stripOf
  refine c_sc hi.2.1 (fun y hy => ?_)
  have e : nI (2 * (cutI a b c n).length + 1) - 1 = nI (2 * (cutI a b c n).length) := nI_pred _
  rw [e] at hy
  subst hy
  exact ⟨2 * (cutI a b c n).length + 1, so_loop hi hx _ 0 (by omega) h⟩
/-! the answers: a code (0, or which exception) and a value -/
def sp_cut (L : List Fr) (k q : Int32) : Nat × Int := if 0 ≤ k.toInt ∧ k.toInt < L.length then (if q = 0 ∨ q = 1 then (0, fprt (fg L k.toInt.toNat) q) else (2, 0)) else (1, 0)
theorem sp_cut1 {L : List Fr} {k q : Int32} (hL : L.length < 1000) (h : ∀ x, x < L.length → k ≠ nI x) : sp_cut L k q = (1, 0) := by
  unfold sp_cut
  rw [if_neg]
  intro z
  refine h k.toInt.toNat (by omega) (Int32.toInt_inj.mp ?_)
  rw [nI_toInt (by omega)]
  omega
theorem isP {post : Int32 → Prop} {q : Int32} (h1 : q = 0 ∨ q = 1 → post 1) (h0 : ¬ (q = 0 ∨ q = 1) → post 0) : w_C_isPart post q := by
  unfold w_C_isPart
  exact ⟨fun z => h1 (Or.inl z), fun z => ⟨fun y => h0 (fun w => w.elim z y), fun y => h1 (Or.inr y)⟩⟩
theorem smp_odd {L : List Fr} {k : Nat} (hk : k < L.length) : smp L (2 * k + 1) = fg L k := by
  unfold smp
  rw [if_neg (by omega), if_neg (by omega), if_neg (by omega), if_pos (by omega), show (2 * k + 1) / 2 = k by omega]
/-- cut -/
theorem c_cut {st : CS} {post : Int64 → CS → Prop} {px : String → CS → Prop} {k q : Int32} {n : Nat} {a b c : Nat → Int} (hi : cInv st n a b c)
    (h0 : (sp_cut (cutI a b c n) k q).1 = 0 → post (jL (sp_cut (cutI a b c n) k q).2) st) (h1 : (sp_cut (cutI a b c n) k q).1 = 1 → px eIO st) (h2 : (sp_cut (cutI a b c n) k q).1 = 2 → px eIA st) : w_C_cut st post px k q := by
  have hc := hi.2.1
  have h15 := hc.2.1
  have bad : (∀ x, x < (cutI a b c n).length → k ≠ nI x) → px eIO st := fun z => h1 (by rw [sp_cut1 (by omega) z])
  unfold w_C_cut
  rw [hc.1]
  refine ⟨fun z => bad (fun x hx e => ?_), fun z => ⟨fun z2 => ?_, fun z2 => bad (fun x hx e => ?_)⟩⟩
  · rw [e] at z; exact nI_pos (by omega) z
  · obtain ⟨x, hx, rfl⟩ := nI_of z
    have hx2 := (nI_ltI hx (by omega)).mp z2
    have es : sp_cut (cutI a b c n) (nI x) q = if q = 0 ∨ q = 1 then (0, fprt (fg (cutI a b c n) x) q) else (2, 0) := by
      unfold sp_cut
      rw [nI_toInt hx, if_pos (by omega)]
      rfl
    rw [es] at h0 h1 h2
    refine isP (fun y => ⟨fun _ => ?_, fun w => absurd w (by decide)⟩) (fun y => ⟨fun w => absurd rfl w, fun _ => ?_⟩)
    · rw [if_pos y] at h0
      have e : (2 : Int32) * nI x = nI (2 * x) := pk_mul 2 _
      rw [e, nI_1]
      refine k_smp hc (by omega) ?_
      rw [smp_odd hx2]
      exact h0 rfl
    · rw [if_neg y] at h2
      exact h2 rfl
  · rw [e] at z2; exact absurd (nI_lt hx (by omega)) z2
/-- curves -/
def sp_curves (a b c : Nat → Int) (n : Nat) (s : Int32) : Nat × Int := if 0 ≤ s.toInt ∧ s.toInt < 2 * (cutI a b c n).length + 1 then (0, (crv a b c n s.toInt.toNat).length) else (1, 0)
theorem c_curves {st : CS} {post : Int32 → CS → Prop} {px : String → CS → Prop} {s : Int32} {n : Nat} {a b c : Nat → Int} (hi : cInv st n a b c)
    (h0 : (sp_curves a b c n s).1 = 0 → post (jI (sp_curves a b c n s).2) st) (h1 : (sp_curves a b c n s).1 = 1 → px eIO st) : w_C_curves st post px s := by
  have hc := hi.2.1
  have h15 := hc.2.1
  unfold w_C_curves
  refine ⟨fun z => h1 ?_, fun z => c_sc hc ⟨fun z2 => ?_, fun z2 => h1 ?_⟩⟩
  · unfold sp_curves
    rw [if_neg]
    intro y
    rw [Int32.lt_iff_toInt_lt, Int32.toInt_zero] at z
    omega
  · obtain ⟨x, hx, rfl⟩ := nI_of z
    have hx2 := (nI_ltI hx (by omega)).mp z2
    refine c_cellsOf hi (by omega) ?_
    have hlen : (crv a b c n x).length ≤ n := hts_len a b c _ n
    have hn := hi.1.2.1
    have e : nI (2 * (crv a b c n x).length + 1) / 2 = nI ((crv a b c n x).length) := by
      have := pk_div (a := 2 * (crv a b c n x).length + 1) (d := 2) (by omega) (by decide) (by decide)
      rw [show (2 * (crv a b c n x).length + 1) / 2 = (crv a b c n x).length by omega] at this
      exact this
    have es : sp_curves a b c n (nI x) = (0, ((crv a b c n x).length : Int)) := by
      unfold sp_curves
      rw [nI_toInt hx, if_pos (by omega)]
      rfl
    rw [es] at h0
    rw [e, ← jI_nI]
    exact h0 rfl
  · obtain ⟨x, hx, rfl⟩ := nI_of z
    unfold sp_curves
    rw [if_neg]
    intro y
    rw [nI_toInt hx] at y
    exact z2 (nI_lt (by omega) (by omega))
