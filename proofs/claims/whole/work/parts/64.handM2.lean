/-! by hand: the reference looks at its lines; samples; curves -/
def mLin (s : MS) (n : Nat) (a b c : Nat → Int) : Prop := MS.lines s = nI n ∧ n ≤ 6 ∧ lok n a b c ∧ ∀ i, i < n → MS.num s (3 * i) = jI (a i) ∧ MS.num s (3 * i + 1) = jI (b i) ∧ MS.num s (3 * i + 2) = jI (c i)
def mK (s : MS) (cd : Int32) (n : Nat) (a b c : Nat → Int) (L : List Fr) : Prop := MS.code s = cd ∧ mLin s n a b c ∧ mRow (MS.cuts s) (MS.cu s) (MS.cd s) 72 L
theorem ix0 (i : Nat) : (3 : Int32) * nI i = nI (3 * i) := pk_mul 3 i
theorem ix1 (i : Nat) : nI (3 * i) + 1 = nI (3 * i + 1) := nI_1 _
theorem ix2 (i : Nat) : nI (3 * i) + 2 = nI (3 * i + 2) := nI_add (3 * i) 2
theorem cutJ_15 {n : Nat} {a b c : Nat → Int} {i j : Nat} {L : List Fr} (hl : lok n a b c) (hn : n ≤ 6) (hi : i < n) (hj : j ≤ i) (hL : fup L) (hup : ∀ j, j < i → b j = 0 → inF (fred (-(c j)) (a j)) L) (hme : b i = 0 → inF (fred (-(c i)) (a i)) L) (hlen : b i ≠ 0 → L.length ≤ bdN b i) (h15 : L.length ≤ 15) : (cutJ a b c i j L).length ≤ 15 := by
  by_cases hb : b i = 0
  · rw [cutJ_up hl hi hb hL (hme hb)]; exact h15
  · obtain ⟨-, h2, -⟩ := cutJ_ln hl hi hL hup j hj
    have e1 : bdN b (i + 1) = bdN b i + lnN b i := by rw [bdN, if_neg hb]
    have e2 := bdN_15 b (n := i + 1) (by omega)
    have e4 := lnN_mono b j i hj
    have e5 := hlen hb
    omega
theorem det72 {p q r s : Int} (hp : -6 ≤ p ∧ p ≤ 6) (hq : -6 ≤ q ∧ q ≤ 6) (hr : -6 ≤ r ∧ r ≤ 6) (hs : -6 ≤ s ∧ s ≤ 6) : -72 ≤ p * q - r * s ∧ p * q - r * s ≤ 72 := by
  have := mulb (M := 6) (N := 6) hp hq (by omega)
  have := mulb (M := 6) (N := 6) hr hs (by omega)
  omega
/-- one fraction brought -/
theorem m_bring {st : MS} {post : MS → Prop} {cd : Int32} {n : Nat} {a b c : Nat → Int} {L : List Fr} {u d : Int} (hk : mK st cd n a b c L) (hlen : L.length < 24) (hd : d ≠ 0) (hu : -72 ≤ u ∧ u ≤ 72) (hd2 : -72 ≤ d ∧ d ≤ 72) (h : ∀ st', mK st' cd n a b c (fins (fred u d) L) → post st') : w_M_lowest st (fun v => w_M_keepCut v post) (jL u) (jL d) := by
  obtain ⟨k1, k2, k3⟩ := hk
  refine m_low hd (by omega) (by omega) ?_
  exact m_keep (st := mUD st (fred u d)) (L := L) k3 hlen (fok_red u d hd) (fsm_red hd (by omega) (by omega)) rfl rfl (fun m f g hr => h _ ⟨k1, k2, hr⟩)
theorem lk_in {post : MS → Prop} {K7 : MS → Int32 → Prop} {cd : Int32} {n : Nat} {a b c : Nat → Int} {i : Nat} {L : List Fr} (hn : n ≤ 6) (hlok : lok n a b c) (hi : i < n) (hL : fup L) (hup : ∀ j, j < i → b j = 0 → inF (fred (-(c j)) (a j)) L) (hme : b i = 0 → inF (fred (-(c i)) (a i)) L) (hlen : b i ≠ 0 → L.length ≤ bdN b i) (h15 : L.length ≤ 15) (hK : ∀ st, mK st cd n a b c (cutJ a b c i i L) → K7 st (nI (i + 1))) : ∀ m j, j + m = i → ∀ st, mK st cd n a b c (cutJ a b c i j L) → w_M_look_59 post K7 (m + 1) st (nI i) (nI j) := by
  intro m
  induction m with
  | zero =>
    intro j hj st hk
    rw [w_M_look_59]
    have e : j = i := by omega
    subst e
    exact ⟨fun _ => by rw [nI_1]; exact hK st hk, fun q => absurd (nI_le (Nat.le_refl j) (by omega)) q⟩
  | succ m ih =>
    intro j hj st hk
    obtain ⟨k1, ⟨-, -, -, hcell⟩, k3⟩ := id hk
    rw [w_M_look_59]
    refine ⟨fun q => absurd q (nI_ge (by omega) (by omega)), fun _ => ?_⟩
    obtain ⟨e1, e2, e3⟩ := hcell i hi
    obtain ⟨e1', e2', e3'⟩ := hcell j (by omega)
    obtain ⟨l1, l2, l3, -⟩ := hlok i hi
    obtain ⟨l1', l2', l3', -⟩ := hlok j (by omega)
    rw [ix0, ix0, ix1, ix1, ix2, ix2, nI_clamp (show 3 * i < 2 ^ 31 by omega), nI_clamp (show 3 * j < 2 ^ 31 by omega), nI_clamp (show 3 * i + 1 < 2 ^ 31 by omega), nI_clamp (show 3 * j + 1 < 2 ^ 31 by omega), nI_clamp (show 3 * i + 2 < 2 ^ 31 by omega), nI_clamp (show 3 * j + 2 < 2 ^ 31 by omega), e1, e2, e3, e1', e2', e3', nI_1]
    have hin : ∀ t, t < 18 → vp_in (nI t) 18 := fun t ht => vp_in_nI ht (by decide)
    refine ⟨hin _ (by omega), hin _ (by omega), hin _ (by omega), hin _ (by omega), fun y hy => ?_⟩
    rw [jI_mul, jI_mul, jI_sub] at hy
    subst hy
    have dd := det72 l1 l2' l1' l2
    rw [jI_0, jI_eq (by omega) (by omega)]
    refine ⟨fun hd => ⟨hin _ (by omega), hin _ (by omega), ?_⟩, fun hd => ih (j + 1) (by omega) st (by rw [cutJ, if_pos hd]; exact hk)⟩
    rw [jI_l (show inI (b i) by omega), jI_l (show inI (c j) by omega), jI_l (show inI (b j) by omega), jI_l (show inI (c i) by omega), jL_mul, jL_mul, jL_sub, jI_l (by omega)]
    refine m_bring hk (by have := cutJ_15 (j := j) hlok hn hi (by omega) hL hup hme hlen h15; omega) hd (det72 l2 l3' l2' l3) dd (fun st' hk' => ih (j + 1) (by omega) st' ?_)
    rw [cutJ, if_neg hd]
    exact hk'
theorem lk_out {post : MS → Prop} {cd : Int32} {n : Nat} {a b c : Nat → Int} (hn : n ≤ 6) (hlok : lok n a b c) (h : ∀ st, mK st cd n a b c (cutI a b c n) → post st) : ∀ m i, i + m = n → ∀ st, mK st cd n a b c (cutI a b c i) → w_M_look_7 post (m + 1) st (nI i) := by
  intro m
  induction m with
  | zero =>
    intro i hi st hk
    rw [w_M_look_7, hk.2.1.1]
    have e : i = n := by omega
    subst e
    exact ⟨fun _ => h st hk, fun q => absurd (nI_le (Nat.le_refl i) (by omega)) q⟩
  | succ m ih =>
    intro i hi st hk
    obtain ⟨k1, ⟨hlc, -, -, hcell⟩, k3⟩ := id hk
    rw [w_M_look_7, hlc]
    have hin : ∀ t, t < 18 → vp_in (nI t) 18 := fun t ht => vp_in_nI ht (by decide)
    refine ⟨fun q => absurd q (nI_ge (by omega) (by omega)), fun _ => ?_⟩
    obtain ⟨e1, e2, e3⟩ := hcell i (by omega)
    obtain ⟨l1, l2, l3, l4⟩ := hlok i (by omega)
    obtain ⟨o1, o2, o3⟩ := cut_ok hlok i (by omega)
    have o15 := bdN_15 b (n := i) (by omega)
    rw [ix0, ix1, ix2, nI_clamp (show 3 * i < 2 ^ 31 by omega), nI_clamp (show 3 * i + 1 < 2 ^ 31 by omega), nI_clamp (show 3 * i + 2 < 2 ^ 31 by omega), e1, e2, e3, jI_0, jI_eq (show inI (b i) by omega) (show inI 0 by omega), jI_neg, jI_l (show inI (-(c i)) by omega), jI_l (show inI (a i) by omega)]
    refine ⟨hin _ (by omega), fun hb => ⟨i + 1, ?_⟩, fun hb => ⟨hin _ (by omega), hin _ (by omega), ?_⟩⟩
    · refine lk_in (L := cutI a b c i) hn hlok (by omega) o1 o3 (fun q => absurd q hb) (fun _ => o2) (by omega) (fun st' hk' => ih (i + 1) (by omega) st' ?_) i 0 (by omega) st hk
      rw [cutI, if_neg hb]
      exact hk'
    · have ha : a i ≠ 0 := fun q => l4 ⟨q, hb⟩
      have hl1 := fins_len (fred (-(c i)) (a i)) (cutI a b c i)
      have eb : bdN b (i + 1) = bdN b i + 1 := by rw [bdN, if_pos hb]
      have e15 := bdN_15 b (n := i + 1) (by omega)
      refine m_bring hk (by omega) ha (by omega) (by omega) (fun st' hk' => ⟨i + 1, ?_⟩)
      refine lk_in (L := fins (fred (-(c i)) (a i)) (cutI a b c i)) hn hlok (by omega) (fup_ins (fok_red _ _ ha) o1) (fun j hj q => inF_keep (o3 j hj q)) (fun _ => inF_self _ _) (fun q => absurd hb q) (by omega) (fun st2 hk2 => ih (i + 1) (by omega) st2 ?_) i 0 (by omega) st' hk'
      rw [cutI, if_pos hb]
      exact hk2
/-- look -/
theorem m_look {st : MS} {post : MS → Prop} {cd : Int32} {n : Nat} {a b c : Nat → Int} (hc : MS.code st = cd) (hl : mLin st n a b c) (h : ∀ st', mK st' cd n a b c (cutI a b c n) → post st') : w_M_look st post := by
  unfold w_M_look
  exact ⟨n + 1, lk_out hl.2.1 hl.2.2.1 h n 0 (by omega) _ ⟨hc, hl, rfl, fup_nil, fun j hj => absurd hj (Nat.not_lt_zero j), fun j hj => absurd hj (Nat.not_lt_zero j)⟩⟩
/-! samples -/
/-- up, down and the x are x -/
def mUX (s : MS) (x : Fr) : MS := (MS.code s, MS.lines s, MS.num s, MS.cuts s, MS.cu s, MS.cd s, MS.curves s, MS.yu s, MS.yd s, jL x.1, jL x.2, jL x.1, jL x.2, MS.strip s, MS.place s)
theorem fsm_bd {M : Nat} {x : Fr} (h : fsm M x) (hM : M ≤ 200000) : (-200000 ≤ x.1 ∧ x.1 ≤ 200000) ∧ 0 < x.2 ∧ x.2 ≤ 200000 := by
  obtain ⟨h1, h2, h3⟩ := h
  omega
theorem m_smp {st : MS} {post : MS → Prop} {L : List Fr} {s : Nat} (hr : mRow (MS.cuts st) (MS.cu st) (MS.cd st) 72 L) (hlen : L.length ≤ 15) (hs : s ≤ 2 * L.length) (h : post (mUX st (smp L s))) : w_M_sampleX st post (nI s) := by
  obtain ⟨hc, hup, hsm, hcell⟩ := hr
  have hdiv : nI s / 2 = nI (s / 2) := pk_div (d := 2) (by omega) (by decide) (by decide)
  have hrem : nI s - nI s / 2 * 2 = nI (s % 2) := pk_rem (d := 2) (by omega) (by decide) (by decide)
  unfold w_M_sampleX
  intro y hy
  rw [hrem]
  rw [hdiv] at hy
  subst hy
  have z0 : (0 : Int32) = nI 0 := rfl
  have z1 : (1 : Int32) = nI 1 := rfl
  have hz : (0 : Int32).toNatClampNeg = 0 := by decide
  rw [hz, hc]
  rw [z0, nI_eq (a := L.length) (b := 0) (by omega) (by omega), nI_eq (a := s) (b := 0) (by omega) (by omega), nI_eq (a := s / 2) (b := L.length) (by omega) (by omega)]
  rw [show (nI (s % 2) = (1 : Int32)) = (nI (s % 2) = nI 1) from rfl, nI_eq (a := s % 2) (b := 1) (by omega) (by omega)]
  unfold smp at h
  refine ⟨fun h0 => ⟨fun od => ⟨fun s0 => ⟨fun ne => ?_, fun eq => ?_⟩, fun s0 => ?_⟩, fun od => ?_⟩, fun h0 => ?_⟩
  · rw [if_neg h0, if_neg s0, if_neg (by omega), if_neg od] at h
    have hm1 : nI (s / 2) - 1 = nI (s / 2 - 1) := by
      obtain ⟨k, hk⟩ : ∃ k, s / 2 = k + 1 := ⟨s / 2 - 1, by omega⟩
      rw [hk]; exact nI_pred k
    rw [hm1, nI_clamp (show s / 2 < 2 ^ 31 by omega), nI_clamp (show s / 2 - 1 < 2 ^ 31 by omega)]
    obtain ⟨f1, f2⟩ := hcell (s / 2 - 1) (by omega)
    obtain ⟨g1, g2⟩ := hcell (s / 2) (by omega)
    obtain ⟨x1, x2, x3⟩ := fsm_bd (hsm (s / 2 - 1) (by omega)) (by omega)
    obtain ⟨y1, y2, y3⟩ := fsm_bd (hsm (s / 2) (by omega)) (by omega)
    rw [f1, f2, g1, g2, jL_2, jL_mul, jL_mul, jL_add, jL_mul, jL_mul]
    refine ⟨vp_in_nI (by omega) (by decide), vp_in_nI (by omega) (by decide), ?_⟩
    generalize fg L (s / 2 - 1) = x at *
    generalize fg L (s / 2) = y at *
    have m1 := mulb (a := x.1) (b := y.2) (M := 200000) (N := 200000) x1 (by omega) (by omega)
    have m2 := mulb (a := y.1) (b := x.2) (M := 200000) (N := 200000) y1 (by omega) (by omega)
    have m3 := mulb (a := x.2) (b := y.2) (M := 200000) (N := 200000) (by omega) (by omega) (by omega)
    have m4 := Int.mul_pos x2 y2
    exact m_low (by rw [Int.mul_assoc]; omega) (by omega) (by rw [Int.mul_assoc]; omega) h
  · rw [if_neg h0, if_neg s0, if_pos (by omega)] at h
    have hm1 : nI (s / 2) - 1 = nI (L.length - 1) := by
      obtain ⟨k, hk⟩ : ∃ k, s / 2 = k + 1 := ⟨s / 2 - 1, by omega⟩
      rw [hk, show L.length - 1 = k by omega]; exact nI_pred k
    rw [hm1, nI_clamp (show L.length - 1 < 2 ^ 31 by omega)]
    obtain ⟨f1, f2⟩ := hcell (L.length - 1) (by omega)
    obtain ⟨x1, x2, x3⟩ := fsm_bd (hsm (L.length - 1) (by omega)) (by omega)
    rw [f1, f2, jL_add]
    exact ⟨vp_in_nI (by omega) (by decide), m_low (by omega) (by omega) (by omega) h⟩
  · rw [if_neg h0, if_pos s0] at h
    obtain ⟨f1, f2⟩ := hcell 0 (by omega)
    obtain ⟨x1, x2, x3⟩ := fsm_bd (hsm 0 (by omega)) (by omega)
    rw [f1, f2, jL_sub]
    exact m_low (by omega) (by omega) (by omega) h
  · rw [if_neg h0, if_neg (by omega), if_neg (by omega), if_pos od] at h
    rw [nI_clamp (show s / 2 < 2 ^ 31 by omega)]
    obtain ⟨f1, f2⟩ := hcell (s / 2) (by omega)
    obtain ⟨x1, x2, x3⟩ := fsm_bd (hsm (s / 2) (by omega)) (by omega)
    rw [f1, f2]
    refine ⟨vp_in_nI (by omega) (by decide), m_low (by omega) (by omega) (by omega) ?_⟩
    rw [(hup.1 (s / 2) (by omega)).2]
    exact h
  · rw [if_pos h0] at h
    refine m_low (u := 0) (d := 1) (by omega) (by omega) (by omega) ?_
    rw [fred01]
    exact h
