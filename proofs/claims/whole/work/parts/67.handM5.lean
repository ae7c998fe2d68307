/-! by hand: the reference's public methods -/
def mI (s : MS) (n : Nat) (a b c : Nat → Int) : Prop := mLin s n a b c ∧ mRow (MS.cuts s) (MS.cu s) (MS.cd s) 72 (cutI a b c n)
theorem mI_15 {s : MS} {n : Nat} {a b c : Nat → Int} (h : mI s n a b c) : n ≤ 6 ∧ lok n a b c ∧ (cutI a b c n).length ≤ 15 :=
  ⟨h.1.2.1, h.1.2.2.1, Nat.le_trans (cut_ok h.1.2.2.1 n (Nat.le_refl n)).2.1 (bdN_15 b h.1.2.1)⟩
theorem m_line {st : MS} {post : Int32 → MS → Prop} {p q r : Int32} {n : Nat} {a b c : Nat → Int} (hi : mI st n a b c)
    (h0 : gL p q r → n < 6 → ∀ st', mI st' (n + 1) (exN a n p.toInt) (exN b n q.toInt) (exN c n r.toInt) → MS.code st' = 0 → post (nI n) st')
    (h1 : ¬ gL p q r → ∀ st', mI st' n a b c → MS.code st' = 1 → post 0 st') (h2 : gL p q r → n = 6 → ∀ st', mI st' n a b c → MS.code st' = 2 → post 0 st') : w_M_line st post p q r := by
  have hl := hi.1
  have hlc := hl.1
  have hn := hl.2.1
  have one : (1 : Int32) ≠ 0 := by decide
  have go : gL p q r → ((¬ (MS.lines st) = 6 → (vp_in (3 * (MS.lines st)) 18 ∧ (vp_in ((3 * (MS.lines st)) + 1) 18 ∧ (vp_in ((3 * (MS.lines st)) + 2) 18 ∧ (w_M_look (0, ((MS.lines st) + 1), (upd (upd (upd (MS.num st) (3 * (MS.lines st)).toNatClampNeg p) ((3 * (MS.lines st)) + 1).toNatClampNeg q) ((3 * (MS.lines st)) + 2).toNatClampNeg r), (MS.cuts st), (MS.cu st), (MS.cd st), (MS.curves st), (MS.yu st), (MS.yd st), (MS.up st), (MS.down st), (MS.xu st), (MS.xd st), (MS.strip st), (MS.place st)) (fun u12 => (post ((MS.lines u12) - 1) u12)) ))))) ∧ ((MS.lines st) = 6 → (post 0 (2, (MS.lines st), (MS.num st), (MS.cuts st), (MS.cu st), (MS.cd st), (MS.curves st), (MS.yu st), (MS.yd st), (MS.up st), (MS.down st), (MS.xu st), (MS.xd st), (MS.strip st), (MS.place st))))) := by
    intro hg
    refine ⟨fun z => ?_, fun z => h2 hg ?_ _ hi rfl⟩
    · rw [hlc] at z ⊢
      have hn6 : n < 6 := by
        rcases Nat.lt_or_ge n 6 with y | y
        · exact y
        · exact absurd (by rw [show n = 6 by omega]; rfl) z
      have hin : ∀ t, t < 18 → vp_in (nI t) 18 := fun t ht => vp_in_nI ht (by decide)
      rw [ix0, ix1, ix2, nI_clamp (show 3 * n < 2 ^ 31 by omega), nI_clamp (show 3 * n + 1 < 2 ^ 31 by omega), nI_clamp (show 3 * n + 2 < 2 ^ 31 by omega), nI_1]
      refine ⟨hin _ (by omega), hin _ (by omega), hin _ (by omega), ?_⟩
      obtain ⟨g1, g2, g3, g4⟩ := id hg
      refine m_look (cd := 0) (n := n + 1) (a := exN a n p.toInt) (b := exN b n q.toInt) (c := exN c n r.toInt) rfl ⟨rfl, by omega, fun i hi' => ?_, fun i hi' => ?_⟩ (fun st' hk => ?_)
      · unfold exN
        by_cases e : i = n
        · rw [if_pos e, if_pos e, if_pos e]
          refine ⟨g1, g2, g3, fun w => g4 ⟨?_, ?_⟩⟩
          · exact Int32.toInt_inj.mp (by rw [w.1]; rfl)
          · exact Int32.toInt_inj.mp (by rw [w.2]; rfl)
        · rw [if_neg e, if_neg e, if_neg e]
          exact hl.2.2.1 i (by omega)
      · show upd (upd (upd (MS.num st) (3 * n) p) (3 * n + 1) q) (3 * n + 2) r (3 * i) = _ ∧ upd (upd (upd (MS.num st) (3 * n) p) (3 * n + 1) q) (3 * n + 2) r (3 * i + 1) = _ ∧ upd (upd (upd (MS.num st) (3 * n) p) (3 * n + 1) q) (3 * n + 2) r (3 * i + 2) = _
        unfold exN
        by_cases e : i = n
        · subst e
          rw [if_pos rfl, if_pos rfl, if_pos rfl]
          refine ⟨?_, ?_, ?_⟩
          · rw [pk_un (by omega), pk_un (by omega), pk_us]; exact jI_of p
          · rw [pk_un (by omega), pk_us]; exact jI_of q
          · rw [pk_us]; exact jI_of r
        · rw [if_neg e, if_neg e, if_neg e]
          obtain ⟨f1, f2, f3⟩ := hl.2.2.2 i (by omega)
          refine ⟨?_, ?_, ?_⟩
          · rw [pk_un (by omega), pk_un (by omega), pk_un (by omega)]; exact f1
          · rw [pk_un (by omega), pk_un (by omega), pk_un (by omega)]; exact f2
          · rw [pk_un (by omega), pk_un (by omega), pk_un (by omega)]; exact f3
      · rw [hk.2.1.1, nI_pred]
        exact h0 hg hn6 st' ⟨hk.2.1, hk.2.2⟩ hk.1
    · rw [hlc] at z
      exact (nI_eq (a := n) (b := 6) (by omega) (by decide)).mp z
  unfold w_M_line
  refine m_in (i2l p) (l := -6) (h := 6) rfl rfl (by have := Int32.le_toInt p; have := Int32.toInt_lt p; omega) (by omega) (by omega) (fun g1 => ⟨fun z => absurd z one, fun _ => ?_⟩) (fun g => ⟨fun _ => h1 (fun w => g w.1) _ hi rfl, fun z => absurd rfl z⟩)
  refine m_in (i2l q) (l := -6) (h := 6) rfl rfl (by have := Int32.le_toInt q; have := Int32.toInt_lt q; omega) (by omega) (by omega) (fun g2 => ⟨fun z => absurd z one, fun _ => ?_⟩) (fun g => ⟨fun _ => h1 (fun w => g w.2.1) _ hi rfl, fun z => absurd rfl z⟩)
  refine m_in (i2l r) (l := -6) (h := 6) rfl rfl (by have := Int32.le_toInt r; have := Int32.toInt_lt r; omega) (by omega) (by omega) (fun g3 => ⟨fun z => absurd z one, fun _ => ?_⟩) (fun g => ⟨fun _ => h1 (fun w => g w.2.2.1) _ hi rfl, fun z => absurd rfl z⟩)
  exact ⟨fun z => go ⟨g1, g2, g3, fun w => z w.1⟩, fun z => ⟨fun y => h1 (fun w => w.2.2.2 ⟨z, y⟩) _ hi rfl, fun y => go ⟨g1, g2, g3, fun w => y w.2⟩⟩⟩
/-! drop -/
def dq (f : Nat → Int32) (k m : Nat) : Nat → Int32 := fun t => if 3 * k ≤ t ∧ t < m then f (t + 3) else f t
theorem md_loop {st0 : MS} {post : MS → Prop} {n k : Nat} {a b c : Nat → Int} (hl : mLin st0 n a b c) (hk : k < n) (h : ∀ st', mI st' (n - 1) (dpN a k) (dpN b k) (dpN c k) → MS.code st' = 0 → post st') : ∀ m j st, j + m = 3 * (n - 1) → 3 * k ≤ j → MS.code st = 0 → MS.lines st = nI (n - 1) → (∀ t, t < 3 * n → MS.num st t = dq (MS.num st0) k j t) → w_M_drop_47 post (m + 1) st (nI j) := by
  obtain ⟨hlc, hn, hlok, hcell⟩ := hl
  intro m
  induction m with
  | zero =>
    intro j st hj hkj e0 e1 e2
    rw [w_M_drop_47, e1, ix0]
    refine ⟨fun _ => ?_, fun z => absurd (nI_le (by omega) (by omega)) z⟩
    refine m_look (cd := 0) (n := n - 1) (a := dpN a k) (b := dpN b k) (c := dpN c k) e0 ⟨e1, by omega, lok_dp hlok hk, fun i hi => ?_⟩ (fun st' hk' => h st' ⟨hk'.2.1, hk'.2.2⟩ hk'.1)
    have ej : j = 3 * (n - 1) := by omega
    have key : ∀ (d : Nat) (u : Nat → Int), d < 3 → (∀ i, i < n → MS.num st0 (3 * i + d) = jI (u i)) → MS.num st (3 * i + d) = jI (dpN u k i) := by
      intro d u hd hu
      rw [e2 _ (by omega)]
      unfold dq dpN
      by_cases e : i < k
      · rw [if_neg (by omega), if_pos e]; exact hu i (by omega)
      · rw [if_pos (by omega), if_neg e, show 3 * i + d + 3 = 3 * (i + 1) + d by omega]
        exact hu (i + 1) (by omega)
    exact ⟨key 0 a (by omega) (fun i hi => (hcell i hi).1), key 1 b (by omega) (fun i hi => (hcell i hi).2.1), key 2 c (by omega) (fun i hi => (hcell i hi).2.2)⟩
  | succ m ih =>
    intro j st hj hkj e0 e1 e2
    rw [w_M_drop_47, e1, ix0]
    have e3 : nI j + 3 = nI (j + 3) := nI_add j 3
    refine ⟨fun z => absurd z (nI_ge (by omega) (by omega)), fun _ => ?_⟩
    rw [e3, nI_clamp (show j < 2 ^ 31 by omega), nI_clamp (show j + 3 < 2 ^ 31 by omega), nI_1]
    refine ⟨vp_in_nI (by omega) (by decide), vp_in_nI (by omega) (by decide), ih (j + 1) _ (by omega) (by omega) e0 rfl (fun t ht => ?_)⟩
    show upd (MS.num st) j (MS.num st (j + 3)) t = _
    by_cases e : t = j
    · rw [e, pk_us, e2 _ (by omega)]
      unfold dq
      rw [if_neg (by omega), if_pos (by omega)]
    · rw [pk_un e, e2 t ht]
      unfold dq
      by_cases q : 3 * k ≤ t ∧ t < j
      · rw [if_pos q, if_pos (by omega)]
      · rw [if_neg q, if_neg (by omega)]
theorem bdI (p : Int32) : -2147483648 ≤ p.toInt ∧ p.toInt < 2147483648 := ⟨Int32.le_toInt p, Int32.toInt_lt p⟩
theorem nI_m1 (n : Nat) : nI n - 1 = jI ((n : Int) - 1) := by rw [← jI_nI, jI_1, jI_sub]
theorem m_drop {st : MS} {post : MS → Prop} {p : Int32} {n : Nat} {a b c : Nat → Int} (hi : mI st n a b c)
    (h0 : ∀ k, k < n → p = nI k → ∀ st', mI st' (n - 1) (dpN a k) (dpN b k) (dpN c k) → MS.code st' = 0 → post st') (h1 : (∀ k, k < n → p ≠ nI k) → ∀ st', mI st' n a b c → MS.code st' = 1 → post st') : w_M_drop st post p := by
  have hl := hi.1
  have hn := hl.2.1
  have hb := bdI p
  unfold w_M_drop
  refine m_in (i2l p) (l := 0) (h := (n : Int) - 1) rfl (by rw [hl.1, nI_m1, jI_l (by omega)]) (by omega) (by omega) (by omega) (fun g => ⟨fun z => absurd z (by decide), fun _ y hy => ?_⟩) (fun g => ⟨fun _ => h1 (fun k hk e => g ?_) _ hi rfl, fun z => absurd rfl z⟩)
  · have hk : p.toInt.toNat < n := by omega
    have e : p = nI p.toInt.toNat := Int32.toInt_inj.mp (by rw [nI_toInt (by omega)]; omega)
    generalize p.toInt.toNat = k at *
    subst e
    rw [ix0] at hy
    subst hy
    have en : MS.lines st - 1 = nI (n - 1) := by rw [hl.1, nI_m1, ← jI_nI]; congr 1; omega
    exact ⟨3 * (n - 1) - 3 * k + 1, md_loop hl hk (h0 k hk rfl) (3 * (n - 1) - 3 * k) (3 * k) _ (by omega) (by omega) rfl en (fun t ht => by unfold dq; rw [if_neg (by omega)]; rfl)⟩
  · rw [e, nI_toInt (by omega)]; omega
theorem m_cut {st : MS} {post : Int64 → MS → Prop} {k q : Int32} {n : Nat} {a b c : Nat → Int} (hi : mI st n a b c)
    (h : ∀ st' v, mI st' n a b c → MS.code st' = nI (sp_cut (cutI a b c n) k q).1 → ((sp_cut (cutI a b c n) k q).1 = 0 → v = jL (sp_cut (cutI a b c n) k q).2) → post v st') : w_M_cut st post k q := by
  obtain ⟨hn, hlok, h15⟩ := mI_15 hi
  obtain ⟨hc, hup, hsm, hcell⟩ := hi.2
  have hbk := bdI k
  have hbq := bdI q
  have q01 : (0 ≤ q.toInt ∧ q.toInt ≤ 1) ↔ (q = 0 ∨ q = 1) := by
    constructor
    · intro z
      have : q.toInt = 0 ∨ q.toInt = 1 := by omega
      rcases this with e | e
      · exact Or.inl (Int32.toInt_inj.mp (by rw [e]; rfl))
      · exact Or.inr (Int32.toInt_inj.mp (by rw [e]; rfl))
    · intro z
      rcases z with rfl | rfl <;> decide
  unfold w_M_cut
  refine m_in (i2l k) (l := 0) (h := ((cutI a b c n).length : Int) - 1) rfl (by rw [hc, nI_m1, jI_l (by omega)]) (by omega) (by omega) (by omega) (fun g => ⟨fun _ => ?_, fun z => absurd z (by decide)⟩) (fun g => ⟨fun z => absurd rfl z, fun _ => h _ 0 hi ?_ ?_⟩)
  · have es : sp_cut (cutI a b c n) k q = if q = 0 ∨ q = 1 then (0, fprt (fg (cutI a b c n) k.toInt.toNat) q) else (2, 0) := by
      unfold sp_cut
      rw [if_pos (by omega)]
    have hkk : k.toInt.toNat < (cutI a b c n).length := by omega
    have ek : k = nI k.toInt.toNat := Int32.toInt_inj.mp (by rw [nI_toInt (by omega)]; omega)
    have ekc : k.toNatClampNeg = k.toInt.toNat := rfl
    obtain ⟨f1, f2⟩ := hcell _ hkk
    rw [es] at h
    refine m_in (i2l q) (l := 0) (h := 1) rfl rfl (by omega) (by omega) (by omega) (fun g2 => ⟨fun z => absurd z (by decide), fun _ => ?_⟩) (fun g2 => ⟨fun _ => ?_, fun z => absurd rfl z⟩)
    · have hq := q01.mp g2
      rw [if_pos hq] at h
      rw [ekc, f1, f2]
      have hv : vp_in k 24 := by rw [ek]; exact vp_in_nI (by omega) (by decide)
      refine ⟨fun z => ⟨hv, h _ _ ⟨hi.1, hi.2⟩ rfl (fun _ => ?_)⟩, fun z => ⟨hv, h _ _ ⟨hi.1, hi.2⟩ rfl (fun _ => ?_)⟩⟩
      · unfold fprt; rw [if_neg z]
      · unfold fprt; rw [if_pos z]
    · rw [if_neg (fun z => g2 (q01.mpr z))] at h
      exact h _ 0 hi rfl (fun z => absurd z (by decide))
  · unfold sp_cut
    rw [if_neg (by omega)]
    rfl
  · unfold sp_cut
    rw [if_neg (by omega)]
    intro z
    exact absurd z (by decide)
theorem m_curves {st : MS} {post : Int32 → MS → Prop} {s : Int32} {n : Nat} {a b c : Nat → Int} (hi : mI st n a b c)
    (h : ∀ st' v, mI st' n a b c → MS.code st' = nI (sp_curves a b c n s).1 → ((sp_curves a b c n s).1 = 0 → v = jI (sp_curves a b c n s).2) → post v st') : w_M_curves st post s := by
  obtain ⟨hn, hlok, h15⟩ := mI_15 hi
  have hc := hi.2.1
  have hb := bdI s
  unfold w_M_curves
  refine m_in (i2l s) (l := 0) (h := ((2 * (cutI a b c n).length : Nat) : Int)) rfl (by rw [hc, two_mul, ← jI_nI, jI_l (by omega)]) (by omega) (by omega) (by omega) (fun g => ⟨fun z => absurd z (by decide), fun _ => ?_⟩) (fun g => ⟨fun _ => h _ 0 hi ?_ ?_, fun z => absurd rfl z⟩)
  · have es : sp_curves a b c n s = (0, ((crv a b c n s.toInt.toNat).length : Int)) := by
      unfold sp_curves
      rw [if_pos (by omega)]
    have e : s = nI s.toInt.toNat := Int32.toInt_inj.mp (by rw [nI_toInt (by omega)]; omega)
    rw [es] at h
    have hs : s.toInt.toNat ≤ 2 * (cutI a b c n).length := by omega
    generalize s.toInt.toNat = t at *
    subst e
    refine m_co (cd := 0) (sp := MS.strip st) (pp := MS.place st) ⟨⟨rfl, hi.1, hi.2⟩, rfl, rfl⟩ hs (fun st' hg hX hY => h st' _ ⟨hg.1.2.1, hg.1.2.2⟩ (by rw [hg.1.1]; rfl) (fun _ => ?_))
    rw [hY.1.1, ← jI_nI]
  · unfold sp_curves
    rw [if_neg (by omega)]
    rfl
  · unfold sp_curves
    rw [if_neg (by omega)]
    intro z
    exact absurd z (by decide)
theorem mt_loop {post : Int32 → MS → Prop} {sp pp : Int32} {n : Nat} {a b c : Nat → Int} (h : ∀ st, mI st n a b c → MS.code st = 0 → post (nI (tot a b c n)) st) : ∀ m s, s + m = 2 * (cutI a b c n).length + 1 → ∀ st, mG st 0 n a b c sp pp → w_M_total_9 post (m + 1) st (nI (fst' a b c n s)) (nI s) := by
  intro m
  induction m with
  | zero =>
    intro s hs st hg
    obtain ⟨hn, hlok, h15, hb⟩ := mC15 hg
    rw [w_M_total_9, hg.1.2.2.1, two_mul]
    have e : s = 2 * (cutI a b c n).length + 1 := by omega
    rw [e]
    exact ⟨fun _ => h st ⟨hg.1.2.1, hg.1.2.2⟩ hg.1.1, fun q => absurd (nI_lt (by omega) (by omega)) q⟩
  | succ m ih =>
    intro s hs st hg
    obtain ⟨hn, hlok, h15, hb⟩ := mC15 hg
    rw [w_M_total_9, hg.1.2.2.1, two_mul]
    refine ⟨fun q => absurd q (nI_nlt (by omega) (by omega)), fun _ => m_co hg (by omega) (fun st' hg' hX' hY' y hy => ?_)⟩
    rw [hY'.1.1, two_mul, nI_1, nI_add] at hy
    subst hy
    rw [nI_1]
    exact ih (s + 1) (by omega) st' hg'
theorem m_total {st : MS} {post : Int32 → MS → Prop} {n : Nat} {a b c : Nat → Int} (hi : mI st n a b c) (h : ∀ st, mI st n a b c → MS.code st = 0 → post (nI (tot a b c n)) st) : w_M_total st post := by
  unfold w_M_total
  exact ⟨2 * (cutI a b c n).length + 1 + 1, mt_loop (sp := MS.strip st) (pp := MS.place st) h _ 0 (by omega) _ ⟨⟨rfl, hi.1, hi.2⟩, rfl, rfl⟩⟩
