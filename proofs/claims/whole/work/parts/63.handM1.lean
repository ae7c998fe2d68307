/-! by hand: the reference's lowest terms and cuts -/
/-- up and down are x -/
def mUD (s : MS) (x : Fr) : MS := (MS.code s, MS.lines s, MS.num s, MS.cuts s, MS.cu s, MS.cd s, MS.curves s, MS.yu s, MS.yd s, jL x.1, jL x.2, MS.xu s, MS.xd s, MS.strip s, MS.place s)
/-- the cuts' number and rows -/
def mC (s : MS) (n : Int32) (f g : Nat → Int64) : MS := (MS.code s, MS.lines s, MS.num s, n, f, g, MS.curves s, MS.yu s, MS.yd s, MS.up s, MS.down s, MS.xu s, MS.xd s, MS.strip s, MS.place s)
theorem lo_end {post : MS → Prop} {st : MS} {u d : Int} {g : Nat} (hg : g = Int.gcd u d) (hd : d ≠ 0) (hu : -1000000000000 ≤ u ∧ u ≤ 1000000000000) (hd2 : -1000000000000 ≤ d ∧ d ≤ 1000000000000) (h : post (mUD st (fred u d))) : w_M_lowest_28 post 1 st (jL u) (jL d) (jL g) (jL 0) := by
  have hp : 0 < g := by rw [hg]; exact Int.gcd_pos_of_ne_zero_right u hd
  have hle : g ≤ d.natAbs := by rw [hg]; exact Int.gcd_le_natAbs_right u hd
  have hne : ¬ jL (g : Int) = 0 := by rw [jL_0, jL_eq (by omega) (by omega)]; omega
  have du : (g : Int) ∣ u := by rw [hg]; exact Int.gcd_dvd_left u d
  have dd : (g : Int) ∣ d := by rw [hg]; exact Int.gcd_dvd_right u d
  rw [w_M_lowest_28]
  refine ⟨fun _ => ⟨fun q => ⟨hne, hne, ?_⟩, fun q => ⟨hne, hne, ?_⟩⟩, fun q => absurd rfl q⟩
  · rw [jL_0, jL_le (by omega) (by omega)] at q
    rw [jL_div (by omega) (by omega), jL_div (by omega) (by omega), Int.tdiv_eq_ediv_of_dvd du, Int.tdiv_eq_ediv_of_dvd dd, hg]
    unfold mUD fred at h
    rw [if_neg (by omega)] at h
    exact h
  · rw [jL_0, jL_le (by omega) (by omega)] at q
    rw [jL_div (by omega) (by omega), jL_div (by omega) (by omega), Int.tdiv_eq_ediv_of_dvd du, Int.tdiv_eq_ediv_of_dvd dd, jL_neg, jL_neg, hg]
    unfold mUD fred at h
    rw [if_pos (by omega)] at h
    exact h
theorem lo_all {post : MS → Prop} {st : MS} {u d : Int} (hd : d ≠ 0) (hu : -1000000000000 ≤ u ∧ u ≤ 1000000000000) (hd2 : -1000000000000 ≤ d ∧ d ≤ 1000000000000) (h : post (mUD st (fred u d))) : ∀ (N y x : Nat), y ≤ N → x < 2 ^ 62 → y < 2 ^ 62 → Nat.gcd x y = Int.gcd u d → ∃ z, w_M_lowest_28 post z st (jL u) (jL d) (jL x) (jL y)
  | 0, y, x, hy, hx, _, hg => by
    have e : y = 0 := by omega
    subst e
    rw [Nat.gcd_zero_right] at hg
    exact ⟨1, lo_end hg hd hu hd2 h⟩
  | N + 1, y, x, hy, hx, hy2, hg => by
    by_cases e : y = 0
    · subst e
      rw [Nat.gcd_zero_right] at hg
      exact ⟨1, lo_end hg hd hu hd2 h⟩
    · have hr : x % y < y := Nat.mod_lt x (by omega)
      rw [gcd_st] at hg
      obtain ⟨z, hz⟩ := lo_all hd hu hd2 h N (x % y) y (by omega) hy2 (by omega) hg
      refine ⟨z + 1, ?_⟩
      have hne : ¬ jL (y : Int) = 0 := by rw [jL_0, jL_eq (by omega) (by omega)]; omega
      rw [w_M_lowest_28]
      refine ⟨fun q => absurd q hne, fun _ => ⟨hne, fun w hw => ?_⟩⟩
      rw [jL_remN hx hy2] at hw
      subst hw
      exact hz
/-- lowest -/
theorem m_low {st : MS} {post : MS → Prop} {u d : Int} (hd : d ≠ 0) (hu : -1000000000000 ≤ u ∧ u ≤ 1000000000000) (hd2 : -1000000000000 ≤ d ∧ d ≤ 1000000000000) (h : post (mUD st (fred u d))) : w_M_lowest st post (jL u) (jL d) := by
  have key := lo_all (st := st) hd hu hd2 h d.natAbs d.natAbs u.natAbs (Nat.le_refl _) (by omega) (by omega) rfl
  unfold w_M_lowest
  rw [jL_0, jL_le (by omega) (by omega), jL_le (by omega) (by omega), jL_neg, jL_neg]
  refine ⟨fun q => ⟨fun p => ?_, fun p => ?_⟩, fun q => ⟨fun p => ?_, fun p => ?_⟩⟩
  · rw [show (u.natAbs : Int) = u by omega, show (d.natAbs : Int) = d by omega] at key; exact key
  · rw [show (u.natAbs : Int) = u by omega, show (d.natAbs : Int) = -d by omega] at key; exact key
  · rw [show (u.natAbs : Int) = -u by omega, show (d.natAbs : Int) = d by omega] at key; exact key
  · rw [show (u.natAbs : Int) = -u by omega, show (d.natAbs : Int) = -d by omega] at key; exact key
/-- rows that hold a rising list in lowest terms -/
def mRow (n : Int32) (f g : Nat → Int64) (M : Nat) (L : List Fr) : Prop := n = nI L.length ∧ fup L ∧ fsmL M L ∧ ∀ j, j < L.length → f j = jL (fg L j).1 ∧ g j = jL (fg L j).2
/-- the rows with x put in its place -/
theorem mRow_ins {n : Int32} {f g f' g' : Nat → Int64} {M : Nat} {L : List Fr} {x : Fr} (h : mRow n f g M L) (hx : fok x) (hs : fsm M x) (c : ¬ (fpos x L < L.length ∧ fg L (fpos x L) = x)) (e1 : ∀ j, f' j = if j = fpos x L then jL x.1 else shf f (fpos x L) L.length j) (e2 : ∀ j, g' j = if j = fpos x L then jL x.2 else shf g (fpos x L) L.length j) : mRow (n + 1) f' g' M (fins x L) := by
  obtain ⟨h1, h2, h3, h4⟩ := h
  obtain ⟨n1, n2⟩ := fins_new c
  have hle := fpos_le x L
  refine ⟨by rw [h1, n1, nI_1], fup_ins hx h2, fsmL_ins hs h3, fun j hj => ?_⟩
  rw [n1] at hj
  have key : ∀ (f f' : Nat → Int64) (w : Fr → Int), (∀ j, j < L.length → f j = jL (w (fg L j))) → (∀ j, f' j = if j = fpos x L then jL (w x) else shf f (fpos x L) L.length j) → f' j = jL (w (fg (fins x L) j)) := by
    intro f f' w hf hf'
    rw [n2 j, hf']
    by_cases q1 : j = fpos x L
    · rw [if_pos q1, if_neg (show ¬ j < fpos x L by omega), if_pos q1]
    · rw [if_neg q1]
      unfold shf
      by_cases q2 : j < fpos x L
      · rw [if_neg (show ¬ (fpos x L < j ∧ j ≤ L.length) by omega), if_pos q2]
        exact hf j (by omega)
      · rw [if_pos (show fpos x L < j ∧ j ≤ L.length by omega), if_neg q2, if_neg q1]
        exact hf (j - 1) (by omega)
  exact ⟨key f f' (fun z => z.1) (fun j hj => (h4 j hj).1) e1, key g g' (fun z => z.2) (fun j hj => (h4 j hj).2) e2⟩
theorem shf_step (f : Nat → Int64) {p m n : Nat} (hp : p + (m + 1) ≤ n) (g : Nat → Int64) (hg : ∀ j, g j = shf f (p + (m + 1)) n j) : ∀ j, vp_updL g (p + (m + 1)) (g (p + m)) j = shf f (p + m) n j := by
  intro j
  unfold vp_updL
  split
  · rename_i e
    rw [hg, e]
    unfold shf
    rw [if_neg (by omega), if_pos (by omega)]
    congr 1
  · rename_i e
    rw [hg]
    unfold shf
    by_cases q : p + (m + 1) < j ∧ j ≤ n
    · rw [if_pos q, if_pos (by omega)]
    · rw [if_neg q, if_neg (by omega)]
theorem kc_shift {st : MS} {post : MS → Prop} {p n : Nat} (hn : n < 24) {f0 g0 : Nat → Int64} (h : ∀ f g, (∀ j, f j = if j = p then MS.up st else shf f0 p n j) → (∀ j, g j = if j = p then MS.down st else shf g0 p n j) → post (mC st (MS.cuts st + 1) f g)) : ∀ m f g, p + m ≤ n → (∀ j, f j = shf f0 (p + m) n j) → (∀ j, g j = shf g0 (p + m) n j) → ∃ z, w_M_keepCut_84 post z (mC st (MS.cuts st) f g) (nI p) (nI (p + m)) := by
  intro m
  induction m with
  | zero =>
    intro f g hp h1 h2
    refine ⟨1, ?_⟩
    rw [w_M_keepCut_84]
    refine ⟨fun _ => ⟨vp_in_nI (by omega) (by decide), ?_⟩, fun c => absurd (nI_le (a := p + 0) (b := p) (by omega) (by omega)) c⟩
    rw [nI_clamp (by omega)]
    refine h (vp_updL f p (MS.up st)) (vp_updL g p (MS.down st)) (fun j => ?_) (fun j => ?_)
    · unfold vp_updL
      split
      · rfl
      · exact h1 j
    · unfold vp_updL
      split
      · rfl
      · exact h2 j
  | succ m ih =>
    intro f g hp h1 h2
    obtain ⟨z, hz⟩ := ih (vp_updL f (p + (m + 1)) (f (p + m))) (vp_updL g (p + (m + 1)) (g (p + m))) (by omega) (shf_step f0 hp f h1) (shf_step g0 hp g h2)
    refine ⟨z + 1, ?_⟩
    rw [w_M_keepCut_84]
    have e1 : nI (p + (m + 1)) - 1 = nI (p + m) := nI_pred (p + m)
    have e2 : nI (p + (m + 1)) + (-1) = nI (p + m) := pk_m1 (p + m)
    rw [e1, e2, nI_clamp (show p + m < 2 ^ 31 by omega), nI_clamp (show p + (m + 1) < 2 ^ 31 by omega)]
    exact ⟨fun c => absurd c (nI_ge (by omega) (by omega)), fun _ => ⟨vp_in_nI (by omega) (by decide), vp_in_nI (by omega) (by decide), hz⟩⟩
theorem jL_small {M : Nat} {x y : Fr} (hM : M ≤ 2000000000) (hx : fsm M x) (hy : fsm M y) : inL (x.1 * y.2) := by
  obtain ⟨a1, a2, a3⟩ := hx
  obtain ⟨b1, b2, b3⟩ := hy
  have := mulb (a := x.1) (b := y.2) (M := 2000000000) (N := 2000000000) (by omega) (by omega) (by omega)
  omega
theorem kc_loop {st : MS} {post : MS → Prop} {L : List Fr} {x : Fr} (hr : mRow (MS.cuts st) (MS.cu st) (MS.cd st) 72 L) (hlen : L.length < 24) (hx : fok x) (hs : fsm 72 x) (hu : MS.up st = jL x.1) (hd : MS.down st = jL x.2) (h : ∀ n f g, mRow n f g 72 (fins x L) → post (mC st n f g)) : ∀ m k, k + m = L.length → (∀ j, j < k → flt (fg L j) x) → ∃ z, w_M_keepCut_2 post z st (nI k) := by
  obtain ⟨hc, hup, hsm, hcell⟩ := id hr
  have place : ∀ k, k ≤ L.length → fpos x L = k → ¬ (fpos x L < L.length ∧ fg L (fpos x L) = x) → ∃ z, w_M_keepCut_84 post z st (nI k) (nI L.length) := by
    intro k hk hp hc2
    obtain ⟨d, hdd⟩ : ∃ d, L.length = k + d := ⟨L.length - k, by omega⟩
    have sh0 : ∀ f : Nat → Int64, ∀ j, f j = shf f (k + d) L.length j := fun f j => by unfold shf; rw [if_neg (by omega)]
    have := kc_shift (st := st) (post := post) (p := k) (n := L.length) (by omega) (f0 := MS.cu st) (g0 := MS.cd st) (fun f g e1 e2 => h _ f g (mRow_ins hr hx hs hc2 (fun j => by rw [hp, ← hu]; exact e1 j) (fun j => by rw [hp, ← hd]; exact e2 j))) d (MS.cu st) (MS.cd st) (by omega) (sh0 _) (sh0 _)
    rw [← hdd] at this
    exact this
  intro m
  induction m with
  | zero =>
    intro k hk hj
    refine ⟨1, ?_⟩
    rw [w_M_keepCut_2, hc]
    have e : fpos x L = k := fpos_eq (by omega) hj (fun q => absurd q (by omega))
    refine ⟨fun _ y hy => ?_, fun c => absurd (nI_le (by omega) (by omega)) c⟩
    subst hy
    exact place k (by omega) e (fun q => by omega)
  | succ m ih =>
    intro k hk hj
    obtain ⟨f1, f2⟩ := hcell k (by omega)
    have hcl : (nI k).toNatClampNeg = k := nI_clamp (by omega)
    have hsk := hsm k (by omega)
    have i1 := jL_small (by omega) hs hsk
    have i2 := jL_small (by omega) hsk hs
    have hnot : ¬ nI L.length ≤ nI k := nI_ge (by omega) (by omega)
    by_cases c : flt (fg L k) x
    · obtain ⟨z, hz⟩ := ih (k + 1) (by omega) (fun j hj2 => by
        rcases Nat.lt_or_ge j k with q | q
        · exact hj j q
        · rw [show j = k by omega]; exact c)
      refine ⟨z + 1, ?_⟩
      rw [w_M_keepCut_2, hc]
      refine ⟨fun q => absurd q hnot, fun _ => ⟨vp_in_nI (by omega) (by decide), ?_⟩⟩
      rw [hcl, f1, f2, hu, hd, jL_mul, jL_mul, jL_le i1 i2, nI_1]
      unfold flt at c
      exact ⟨fun q => absurd q (by omega), fun _ => hz⟩
    · have hpos : fpos x L = k := fpos_eq (by omega) hj (fun _ => c)
      refine ⟨1, ?_⟩
      rw [w_M_keepCut_2, hc]
      refine ⟨fun q => absurd q hnot, fun _ => ⟨vp_in_nI (by omega) (by decide), ?_⟩⟩
      have b1 : inL (fg L k).1 := by have := hsk.1; omega
      have b2 : inL x.1 := by have := hs.1; omega
      have b3 : inL (fg L k).2 := by have := hsk.2; omega
      have b4 : inL x.2 := by have := hs.2; omega
      rw [hcl, f1, f2, hu, hd, jL_mul, jL_mul, jL_le i1 i2, jL_eq b1 b2, jL_eq b3 b4]
      unfold flt at c
      refine ⟨fun _ => ⟨fun q y hy => ?_, fun q => ⟨fun q2 y hy => ?_, fun q2 => ?_⟩⟩, fun q => absurd (by omega) q⟩
      · subst hy
        exact place k (by omega) hpos (fun w => q (by rw [hpos] at w; rw [w.2]))
      · subst hy
        exact place k (by omega) hpos (fun w => q2 (by rw [hpos] at w; rw [w.2]))
      · have hin : fg L k = x := Prod.ext q q2
        have hf := fins_in (x := x) (L := L) (by omega) (by rw [hpos]; exact hin)
        exact h (MS.cuts st) (MS.cu st) (MS.cd st) (by rw [hf]; exact hr)
/-- keepCut -/
theorem m_keep {st : MS} {post : MS → Prop} {L : List Fr} {x : Fr} (hr : mRow (MS.cuts st) (MS.cu st) (MS.cd st) 72 L) (hlen : L.length < 24) (hx : fok x) (hs : fsm 72 x) (hu : MS.up st = jL x.1) (hd : MS.down st = jL x.2) (h : ∀ n f g, mRow n f g 72 (fins x L) → post (mC st n f g)) : w_M_keepCut st post := by
  unfold w_M_keepCut
  exact kc_loop hr hlen hx hs hu hd h L.length 0 (by omega) (fun j q => absurd q (by omega))
