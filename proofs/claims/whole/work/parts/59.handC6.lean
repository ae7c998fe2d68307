/-! by hand: drop, at, the plain counts -/
def dpN (a : Nat → Int) (k : Nat) : Nat → Int := fun i => if i < k then a i else a (i + 1)
def dpI (f : Nat → Int32) (k m : Nat) : Nat → Int32 := fun i => if k ≤ i ∧ i + 1 < m then f (i + 1) else f i
theorem lok_dp {n : Nat} {a b c : Nat → Int} {k : Nat} (hl : lok n a b c) (hk : k < n) : lok (n - 1) (dpN a k) (dpN b k) (dpN c k) := by
  intro i hi
  unfold dpN
  by_cases e : i < k
  · rw [if_pos e, if_pos e, if_pos e]; exact hl i (by omega)
  · rw [if_neg e, if_neg e, if_neg e]; exact hl (i + 1) (by omega)
theorem dr_loop {st0 : CS} {post : CS → Prop} {px : String → CS → Prop} {n k : Nat} {a b c : Nat → Int} (hl : cLin st0 n a b c) (hk : k < n) (h : ∀ st', cInv st' (n - 1) (dpN a k) (dpN b k) (dpN c k) → post st') : ∀ m j st, j + m = n → k < j → CS.lc st = nI n → (∀ i, i < n → CS.a st i = dpI (CS.a st0) k j i) → (∀ i, i < n → CS.b st i = dpI (CS.b st0) k j i) → (∀ i, i < n → CS.c st i = dpI (CS.c st0) k j i) → w_C_drop_22 post px (m + 1) st (nI j) := by
  obtain ⟨hlc, hn, hlok, hcell⟩ := hl
  intro m
  induction m with
  | zero =>
    intro j st hj hkj e0 e1 e2 e3
    rw [w_C_drop_22, e0]
    have ej : j = n := by omega
    subst ej
    refine ⟨fun _ => ?_, fun z => absurd (nI_le (Nat.le_refl j) (by omega)) z⟩
    have ep : nI j - 1 = nI (j - 1) := by
      obtain ⟨i, rfl⟩ : ∃ i, j = i + 1 := ⟨j - 1, by omega⟩
      exact nI_pred i
    rw [ep]
    refine c_rb (n := j - 1) (a := dpN a k) (b := dpN b k) (c := dpN c k) ⟨rfl, by omega, lok_dp hlok hk, fun i hi => ?_⟩ h
    have key : ∀ (f g : Nat → Int32) (u : Nat → Int), (∀ i, i < j → g i = dpI f k j i) → (∀ i, i < j → f i = jI (u i)) → g i = jI (dpN u k i) := by
      intro f g u hg hf
      rw [hg i (by omega)]
      unfold dpI dpN
      by_cases e : i < k
      · rw [if_neg (by omega), if_pos e]; exact hf i (by omega)
      · rw [if_pos (by omega), if_neg e]; exact hf (i + 1) (by omega)
    exact ⟨key _ _ a e1 (fun i hi => (hcell i hi).1), key _ _ b e2 (fun i hi => (hcell i hi).2.1), key _ _ c e3 (fun i hi => (hcell i hi).2.2)⟩
  | succ m ih =>
    intro j st hj hkj e0 e1 e2 e3
    rw [w_C_drop_22, e0]
    have ep : nI j - 1 = nI (j - 1) := by
      obtain ⟨i, rfl⟩ : ∃ i, j = i + 1 := ⟨j - 1, by omega⟩
      exact nI_pred i
    refine ⟨fun z => absurd z (nI_ge (by omega) (by omega)), fun _ => ⟨vp_in_nI (by omega) (by decide), by rw [ep]; exact vp_in_nI (by omega) (by decide), ?_⟩⟩
    rw [ep, nI_clamp (show j < 2 ^ 31 by omega), nI_clamp (show j - 1 < 2 ^ 31 by omega), nI_1]
    have key : ∀ (f g : Nat → Int32), (∀ i, i < n → g i = dpI f k j i) → ∀ i, i < n → upd g (j - 1) (g j) i = dpI f k (j + 1) i := by
      intro f g hg i hi
      by_cases e : i = j - 1
      · rw [e, pk_us, hg j (by omega)]
        unfold dpI
        rw [if_neg (by omega), if_pos (by omega), show j - 1 + 1 = j by omega]
      · rw [pk_un e, hg i hi]
        unfold dpI
        by_cases q : k ≤ i ∧ i + 1 < j
        · rw [if_pos q, if_pos (by omega)]
        · rw [if_neg q, if_neg (by omega)]
    exact ih (j + 1) _ (by omega) (by omega) e0 (key _ _ e1) (key _ _ e2) (key _ _ e3)
theorem c_drop {st : CS} {post : CS → Prop} {px : String → CS → Prop} {p : Int32} {n : Nat} {a b c : Nat → Int} (hi : cInv st n a b c)
    (h0 : ∀ k, k < n → p = nI k → ∀ st', cInv st' (n - 1) (dpN a k) (dpN b k) (dpN c k) → post st') (h1 : (∀ k, k < n → p ≠ nI k) → px eIO st) : w_C_drop st post px p := by
  have hl := hi.1
  have hn := hl.2.1
  unfold w_C_drop
  refine c_isLine hl (fun k hk e => ⟨fun _ y hy => ?_, fun z => absurd z (by decide)⟩) (fun z => ⟨fun w => absurd rfl w, fun _ => h1 z⟩)
  subst e
  rw [nI_1] at hy
  subst hy
  have s0 : ∀ f : Nat → Int32, ∀ i, i < n → f i = dpI f k (k + 1) i := fun f i _ => by unfold dpI; rw [if_neg (by omega)]
  exact ⟨n - (k + 1) + 1, dr_loop hl hk (h0 k hk rfl) (n - (k + 1)) (k + 1) st (by omega) (by omega) hl.1 (s0 _) (s0 _) (s0 _)⟩
/-- a number of a point -/
def gP (p : Int32) : Prop := -100 ≤ p.toInt ∧ p.toInt ≤ 100
theorem isN {post : Int32 → Prop} {p : Int32} (h1 : gP p → post 1) (h0 : ¬ gP p → post 0) : w_C_isNear post p := by
  unfold w_C_isNear gP at *
  rw [Int32.lt_iff_toInt_lt, Int32.lt_iff_toInt_lt, show ((-100 : Int32)).toInt = -100 by decide, show ((100 : Int32)).toInt = 100 by decide]
  exact ⟨fun z => h0 (by omega), fun z => ⟨fun y => h0 (by omega), fun y => h1 (by omega)⟩⟩
/-- a point -/
def gA (p q r s : Int32) : Prop := gP p ∧ gP q ∧ gP r ∧ gP s ∧ 1 ≤ q.toInt ∧ 1 ≤ s.toInt
/-- its cell -/
def sp_at (a b c : Nat → Int) (n : Nat) (p q r s : Int) : Nat := fst' a b c n (fpc (fred p q) (cutI a b c n)) + fpc (fred r s) (hts a b c (p, q) n)
theorem i2l (p : Int32) : p.toInt64 = jL p.toInt := by rw [jL_of p.toInt64, Int32.toInt_toInt64]
theorem c_at {st : CS} {post : Int32 → CS → Prop} {px : String → CS → Prop} {p q r s : Int32} {n : Nat} {a b c : Nat → Int} (hi : cInv st n a b c)
    (h0 : gA p q r s → ∀ st', cInv st' n a b c → post (nI (sp_at a b c n p.toInt q.toInt r.toInt s.toInt)) st') (h1 : ¬ gA p q r s → px eIA st) : w_C_at st post px p q r s := by
  have hl := hi.1
  have one : (1 : Int32) ≠ 0 := by decide
  unfold w_C_at
  refine isN (fun g1 => ⟨fun z => absurd z one, fun _ => ?_⟩) (fun g => ⟨fun _ => h1 (fun w => g w.1), fun z => absurd rfl z⟩)
  refine isN (fun g2 => ⟨fun z => absurd z one, fun _ => ?_⟩) (fun g => ⟨fun _ => h1 (fun w => g w.2.1), fun z => absurd rfl z⟩)
  refine isN (fun g3 => ⟨fun z => absurd z one, fun _ => ?_⟩) (fun g => ⟨fun _ => h1 (fun w => g w.2.2.1), fun z => absurd rfl z⟩)
  refine isN (fun g4 => ⟨fun _ => ?_, fun z => absurd z one⟩) (fun g => ⟨fun z => absurd rfl z, fun _ => h1 (fun w => g w.2.2.2.1)⟩)
  rw [Int32.lt_iff_toInt_lt, Int32.le_iff_toInt_le, show ((1 : Int32)).toInt = 1 by decide]
  refine ⟨fun z => h1 (fun w => by have := w.2.2.2.2.1; omega), fun z => ⟨fun y => ?_, fun y => h1 (fun w => by have := w.2.2.2.2.2; omega)⟩⟩
  have hg : gA p q r s := ⟨g1, g2, g3, g4, by omega, y⟩
  unfold gP at g1 g2 g3 g4
  rw [i2l, i2l, i2l, i2l]
  refine c_mh (x := (p.toInt, q.toInt)) hl ⟨by show p.toInt.natAbs ≤ 10400; omega, by show 0 < q.toInt; omega, by show q.toInt.natAbs ≤ 10400; omega⟩ (fun k hk => ?_)
  have hc := hi.2.1
  have h15 := hc.2.1
  have hp := fpc_lt (fred p.toInt q.toInt) (cutI a b c n)
  refine k_pc (u := CS.cu (CS.set_he st k)) (L := cutI a b c n) hc (by omega) (by omega) (by omega) ⟨vp_in_nI (by omega) (by decide), ?_⟩
  refine k_pc (u := CS.he (CS.set_he st k)) (L := hts a b c (p.toInt, q.toInt) n) hk (by omega) (by omega) (by omega) ?_
  rw [nI_clamp (by omega), show CS.fc (CS.set_he st k) (fpc (fred p.toInt q.toInt) (cutI a b c n)) = nI (fst' a b c n (fpc (fred p.toInt q.toInt) (cutI a b c n))) from hi.2.2.2 _ (by omega), nI_add]
  exact h0 hg _ (cInv_he hi k)
theorem c_total {st : CS} {post : Int32 → Prop} {n : Nat} {a b c : Nat → Int} (hi : cInv st n a b c) (h : post (nI (tot a b c n))) : w_C_total st post := by
  have h15 := hi.2.1.2.1
  unfold w_C_total
  refine c_sc hi.2.1 ⟨vp_in_nI (by omega) (by decide), ?_⟩
  rw [nI_clamp (by omega), hi.2.2.2 _ (Nat.le_refl _)]
  exact h
