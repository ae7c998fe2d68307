/-! by hand: the reference's curves -/
/-- what stays while curves are looked for: the answer's code, the lines, the cuts, strip and place -/
def mG (s : MS) (cd : Int32) (n : Nat) (a b c : Nat → Int) (sp pp : Int32) : Prop := mK s cd n a b c (cutI a b c n) ∧ MS.strip s = sp ∧ MS.place s = pp
def mX (s : MS) (x : Fr) : Prop := MS.xu s = jL x.1 ∧ MS.xd s = jL x.2
def mY (s : MS) (L : List Fr) : Prop := mRow (MS.curves s) (MS.yu s) (MS.yd s) 130000 L ∧ L.length ≤ 6
theorem hgt_sm {n : Nat} {a b c : Nat → Int} {x : Fr} {k : Nat} (hl : lok n a b c) (hk : k < n) (hb : b k ≠ 0) (hx : fsm 10400 x) : fsm 130000 (hgt a b c x k) := by
  obtain ⟨l1, l2, l3, -⟩ := hl k hk
  obtain ⟨x1, x2, x3⟩ := hx
  have p1 := mulb (a := a k) (b := x.1) (M := 6) (N := 10400) l1 (by omega) (by omega)
  have p2 := mulb (a := c k) (b := x.2) (M := 6) (N := 10400) l3 (by omega) (by omega)
  have p3 := mulb (a := b k) (b := x.2) (M := 6) (N := 10400) l2 (by omega) (by omega)
  unfold hgt
  exact fsm_red (fun q => by rcases Int.mul_eq_zero.mp q with z | z <;> omega) (by omega) (by omega)
theorem m_lineAt {st : MS} {post : MS → Prop} {n : Nat} {a b c : Nat → Int} {x : Fr} {i : Nat} (hl : mLin st n a b c) (hX : mX st x) (hx : fsm 10400 x) (hi : i < n) (hb : b i ≠ 0) (h : post (mUD st (hgt a b c x i))) : w_M_lineAt st post (nI i) := by
  obtain ⟨hlc, hn, hlok, hcell⟩ := hl
  obtain ⟨e1, e2, e3⟩ := hcell i hi
  obtain ⟨l1, l2, l3, -⟩ := hlok i hi
  obtain ⟨x1, x2, x3⟩ := hx
  have hin : ∀ t, t < 18 → vp_in (nI t) 18 := fun t ht => vp_in_nI ht (by decide)
  unfold w_M_lineAt
  rw [ix0, ix1, ix2, nI_clamp (show 3 * i < 2 ^ 31 by omega), nI_clamp (show 3 * i + 1 < 2 ^ 31 by omega), nI_clamp (show 3 * i + 2 < 2 ^ 31 by omega), e1, e2, e3, hX.1, hX.2, jI_l (show inI (a i) by omega), jI_l (show inI (b i) by omega), jI_l (show inI (c i) by omega), jL_mul, jL_mul, jL_add, jL_neg, jL_mul]
  have p1 := mulb (a := a i) (b := x.1) (M := 6) (N := 10400) l1 (by omega) (by omega)
  have p2 := mulb (a := c i) (b := x.2) (M := 6) (N := 10400) l3 (by omega) (by omega)
  have p3 := mulb (a := b i) (b := x.2) (M := 6) (N := 10400) l2 (by omega) (by omega)
  exact ⟨hin _ (by omega), hin _ (by omega), hin _ (by omega), m_low (fun q => by rcases Int.mul_eq_zero.mp q with z | z <;> omega) (by omega) (by omega) h⟩
theorem be_loop {st : MS} {post : Int32 → Prop} {L : List Fr} {x : Fr} (hY : mY st L) (hs : fsm 130000 x) (hu : MS.up st = jL x.1) (hd : MS.down st = jL x.2) (h : post (nI (fpos x L))) : ∀ m k, k + m = L.length → (∀ j, j < k → flt (fg L j) x) → ∃ z, w_M_below_2 st post z (nI k) := by
  obtain ⟨⟨hc, hup, hsm, hcell⟩, h6⟩ := hY
  intro m
  induction m with
  | zero =>
    intro k hk hj
    refine ⟨1, ?_⟩
    rw [w_M_below_2, hc]
    have e : fpos x L = k := fpos_eq (by omega) hj (fun q => absurd q (by omega))
    rw [e] at h
    exact ⟨fun _ => h, fun c => absurd (nI_le (by omega) (by omega)) c⟩
  | succ m ih =>
    intro k hk hj
    obtain ⟨f1, f2⟩ := hcell k (by omega)
    have hcl : (nI k).toNatClampNeg = k := nI_clamp (by omega)
    have hsk := hsm k (by omega)
    have i1 := jL_small (by omega) hs hsk
    have i2 := jL_small (by omega) hsk hs
    have hnot : ¬ nI L.length ≤ nI k := nI_ge (by omega) (by omega)
    by_cases c : flt (fg L k) x
    · obtain ⟨z, hz⟩ := ih (k + 1) (by omega) (fun j hj2 => by
        rcases Nat.lt_or_ge j k with q | q
        · exact hj j q
        · rw [show j = k by omega]; exact c)
      refine ⟨z + 1, ?_⟩
      rw [w_M_below_2, hc]
      refine ⟨fun q => absurd q hnot, fun _ => ⟨vp_in_nI (by omega) (by decide), ?_⟩⟩
      rw [hcl, f1, f2, hu, hd, jL_mul, jL_mul, jL_le i1 i2, nI_1]
      unfold flt at c
      exact ⟨fun q => absurd q (by omega), fun _ => hz⟩
    · have hpos : fpos x L = k := fpos_eq (by omega) hj (fun _ => c)
      rw [hpos] at h
      refine ⟨1, ?_⟩
      rw [w_M_below_2, hc]
      refine ⟨fun q => absurd q hnot, fun _ => ⟨vp_in_nI (by omega) (by decide), ?_⟩⟩
      rw [hcl, f1, f2, hu, hd, jL_mul, jL_mul, jL_le i1 i2]
      unfold flt at c
      exact ⟨fun _ => h, fun q => absurd (by omega) q⟩
theorem m_below {st : MS} {post : Int32 → Prop} {L : List Fr} {x : Fr} (hY : mY st L) (hs : fsm 130000 x) (hu : MS.up st = jL x.1) (hd : MS.down st = jL x.2) (h : post (nI (fpos x L))) : w_M_below st post := by
  unfold w_M_below
  exact be_loop hY hs hu hd h L.length 0 (by omega) (fun j q => absurd q (by omega))
/-- the curves' number and rows -/
def mV (s : MS) (n : Int32) (f g : Nat → Int64) : MS := (MS.code s, MS.lines s, MS.num s, MS.cuts s, MS.cu s, MS.cd s, n, f, g, MS.up s, MS.down s, MS.xu s, MS.xd s, MS.strip s, MS.place s)
theorem fc_shift {st : MS} {post : MS → Prop} {K7 : MS → Int32 → Prop} {i p n : Nat} (hn : n < 6) {f0 g0 : Nat → Int64} (h : ∀ f g, (∀ j, f j = if j = p then MS.up st else shf f0 p n j) → (∀ j, g j = if j = p then MS.down st else shf g0 p n j) → K7 (mV st (MS.curves st + 1) f g) (nI (i + 1))) : ∀ m f g, p + m ≤ n → (∀ j, f j = shf f0 (p + m) n j) → (∀ j, g j = shf g0 (p + m) n j) → ∃ z, w_M_findCurves_85 post K7 z (mV st (MS.curves st) f g) (nI i) (nI p) (nI (p + m)) := by
  intro m
  induction m with
  | zero =>
    intro f g hp h1 h2
    refine ⟨1, ?_⟩
    rw [w_M_findCurves_85]
    refine ⟨fun _ => ⟨vp_in_nI (by omega) (by decide), ?_⟩, fun c => absurd (nI_le (a := p + 0) (b := p) (by omega) (by omega)) c⟩
    rw [nI_clamp (by omega), nI_1]
    refine h (vp_updL f p (MS.up st)) (vp_updL g p (MS.down st)) (fun j => ?_) (fun j => ?_)
    · unfold vp_updL
      split
      · rfl
      · exact h1 j
    · unfold vp_updL
      split
      · rfl
      · exact h2 j
  | succ m ih =>
    intro f g hp h1 h2
    obtain ⟨z, hz⟩ := ih (vp_updL f (p + (m + 1)) (f (p + m))) (vp_updL g (p + (m + 1)) (g (p + m))) (by omega) (shf_step f0 hp f h1) (shf_step g0 hp g h2)
    refine ⟨z + 1, ?_⟩
    rw [w_M_findCurves_85]
    have e1 : nI (p + (m + 1)) - 1 = nI (p + m) := nI_pred (p + m)
    have e2 : nI (p + (m + 1)) + (-1) = nI (p + m) := pk_m1 (p + m)
    rw [e1, e2, nI_clamp (show p + m < 2 ^ 31 by omega), nI_clamp (show p + (m + 1) < 2 ^ 31 by omega)]
    exact ⟨fun c => absurd c (nI_ge (by omega) (by omega)), fun _ => ⟨vp_in_nI (by omega) (by decide), vp_in_nI (by omega) (by decide), hz⟩⟩
theorem fc_loop {post : MS → Prop} {cd sp pp : Int32} {n : Nat} {a b c : Nat → Int} {x : Fr} (hn : n ≤ 6) (hlok : lok n a b c) (hx : fsm 10400 x) (h : ∀ st, mG st cd n a b c sp pp → mX st x → mY st (hts a b c x n) → post st) : ∀ m i, i + m = n → ∀ st, mG st cd n a b c sp pp → mX st x → mY st (hts a b c x i) → w_M_findCurves_7 post (m + 1) st (nI i) := by
  intro m
  induction m with
  | zero =>
    intro i hi st hg hX hY
    rw [w_M_findCurves_7, hg.1.2.1.1]
    have e : i = n := by omega
    subst e
    exact ⟨fun _ => h st hg hX hY, fun q => absurd (nI_le (Nat.le_refl i) (by omega)) q⟩
  | succ m ih =>
    intro i hi st hg hX hY
    have hlin := hg.1.2.1
    obtain ⟨hlc, -, -, hcell⟩ := id hlin
    rw [w_M_findCurves_7, hlc]
    refine ⟨fun q => absurd q (nI_ge (by omega) (by omega)), fun _ => ?_⟩
    obtain ⟨e1, e2, e3⟩ := hcell i (by omega)
    obtain ⟨l1, l2, l3, l4⟩ := hlok i (by omega)
    rw [ix0, ix1, nI_clamp (show 3 * i + 1 < 2 ^ 31 by omega), e2, jI_0, jI_eq (show inI (b i) by omega) (show inI 0 by omega), nI_1]
    refine ⟨vp_in_nI (by omega) (by decide), fun hb => ?_, fun hb => ih (i + 1) (by omega) st hg hX (by rw [hts, if_pos hb]; exact hY)⟩
    have hsm := hgt_sm hlok (show i < n by omega) hb hx
    have hok := hgt_ok (a := a) (c := c) (n := n) hx.2.1 hb
    have hlen := hts_len a b c x i
    refine m_lineAt hlin hX hx (by omega) hb ?_
    have hY' : mY (mUD st (hgt a b c x i)) (hts a b c x i) := hY
    refine m_below (L := hts a b c x i) (x := hgt a b c x i) hY' hsm rfl rfl ?_
    obtain ⟨⟨y1, y2, y3, y4⟩, y6⟩ := id hY'
    have hle := fpos_le (hgt a b c x i) (hts a b c x i)
    generalize hp : fpos (hgt a b c x i) (hts a b c x i) = p at *
    have hts1 : hts a b c x (i + 1) = fins (hgt a b c x i) (hts a b c x i) := by rw [hts, if_neg hb]
    have place : ¬ (p < (hts a b c x i).length ∧ fg (hts a b c x i) p = hgt a b c x i) → ∃ z, w_M_findCurves_85 post (fun a0 a1 => w_M_findCurves_7 post (m + 1) a0 a1) z (mUD st (hgt a b c x i)) (nI i) (nI p) (nI (hts a b c x i).length) := by
      intro hc2
      obtain ⟨d, hdd⟩ : ∃ d, (hts a b c x i).length = p + d := ⟨(hts a b c x i).length - p, by omega⟩
      have sh0 : ∀ f : Nat → Int64, ∀ j, f j = shf f (p + d) (hts a b c x i).length j := fun f j => by unfold shf; rw [if_neg (by omega)]
      have := fc_shift (st := mUD st (hgt a b c x i)) (post := post) (K7 := fun a0 a1 => w_M_findCurves_7 post (m + 1) a0 a1) (i := i) (p := p) (n := (hts a b c x i).length) (by omega) (f0 := MS.yu st) (g0 := MS.yd st) (fun f g q1 q2 => ih (i + 1) (by omega) _ hg hX (by
        rw [hts1]
        refine ⟨mRow_ins hY'.1 hok hsm (by rw [hp]; exact hc2) (fun j => by rw [hp]; exact q1 j) (fun j => by rw [hp]; exact q2 j), ?_⟩
        have := fins_len (hgt a b c x i) (hts a b c x i)
        omega)) d (MS.yu st) (MS.yd st) (by omega) (sh0 _) (sh0 _)
      rw [← hdd] at this
      exact this
    rw [y1]
    refine ⟨fun q y hy => ?_, fun q => ⟨vp_in_nI (by have : ¬ (hts a b c x i).length ≤ p := fun w => q (nI_le w (by omega)); omega) (by decide), ?_⟩⟩
    · subst hy
      exact place (fun w => by have := (nI_leI (by omega) (by omega)).mp q; omega)
    · have hpl : p < (hts a b c x i).length := by
        have : ¬ (hts a b c x i).length ≤ p := fun w => q (nI_le w (by omega))
        omega
      obtain ⟨f1, f2⟩ := y4 p hpl
      obtain ⟨b1, b2, b3⟩ := y3 p hpl
      obtain ⟨d1, d2, d3⟩ := hsm
      rw [nI_clamp (show p < 2 ^ 31 by omega), f1, f2]
      show (¬ jL (fg (hts a b c x i) p).1 = jL (hgt a b c x i).1 → _) ∧ (jL (fg (hts a b c x i) p).1 = jL (hgt a b c x i).1 → ((¬ jL (fg (hts a b c x i) p).2 = jL (hgt a b c x i).2 → _) ∧ (jL (fg (hts a b c x i) p).2 = jL (hgt a b c x i).2 → _)))
      rw [jL_eq (by omega) (by omega), jL_eq (by omega) (by omega)]
      refine ⟨fun w y hy => ?_, fun w => ⟨fun w2 y hy => ?_, fun w2 => ?_⟩⟩
      · subst hy
        exact place (fun v => w (by rw [v.2]))
      · subst hy
        exact place (fun v => w2 (by rw [v.2]))
      · refine ih (i + 1) (by omega) _ hg hX ?_
        rw [hts1, fins_in (by rw [hp]; exact hpl) (by rw [hp]; exact Prod.ext w w2)]
        exact hY'
theorem m_fc {st : MS} {post : MS → Prop} {cd sp pp : Int32} {n : Nat} {a b c : Nat → Int} {x : Fr} (hg : mG st cd n a b c sp pp) (hX : mX st x) (hx : fsm 10400 x) (h : ∀ st, mG st cd n a b c sp pp → mX st x → mY st (hts a b c x n) → post st) : w_M_findCurves st post := by
  unfold w_M_findCurves
  exact ⟨n + 1, fc_loop hg.1.2.1.2.1 hg.1.2.1.2.2.1 hx h n 0 (by omega) _ hg hX ⟨⟨rfl, fup_nil, fun j hj => absurd hj (Nat.not_lt_zero j), fun j hj => absurd hj (Nat.not_lt_zero j)⟩, Nat.zero_le _⟩⟩
/-- curvesOf -/
theorem m_co {st : MS} {post : MS → Prop} {cd sp pp : Int32} {n s : Nat} {a b c : Nat → Int} (hg : mG st cd n a b c sp pp) (hs : s ≤ 2 * (cutI a b c n).length) (h : ∀ st, mG st cd n a b c sp pp → mX st (smp (cutI a b c n) s) → mY st (crv a b c n s) → post st) : w_M_curvesOf st post (nI s) := by
  have hn := hg.1.2.1.2.1
  have hlok := hg.1.2.1.2.2.1
  have h15 : (cutI a b c n).length ≤ 15 := Nat.le_trans (cut_ok hlok n (Nat.le_refl n)).2.1 (bdN_15 b hn)
  unfold w_M_curvesOf
  refine m_smp hg.1.2.2 h15 hs ?_
  exact m_fc (st := mUX st (smp (cutI a b c n) s)) hg ⟨rfl, rfl⟩ (smp_sm (cutI_sm hlok n (Nat.le_refl n)) s hs) h
