/-! by hand: a Marks holds a rising list of fractions -/
/-- the cells u hold the list L, not in lowest terms, in numbers of a size -/
def kRel (u : KS) (L : List Fr) : Prop := KS.cnt u = nI L.length ∧ L.length ≤ 15 ∧ fup L ∧ ∀ j, j < L.length → ∃ a b : Int, KS.up u j = jL a ∧ KS.dn u j = jL b ∧ -200000 ≤ a ∧ a ≤ 200000 ∧ 0 < b ∧ b ≤ 200000 ∧ fred a b = fg L j
theorem mulb {a b M N : Int} (ha : -M ≤ a ∧ a ≤ M) (hb : -N ≤ b ∧ b ≤ N) (hM : 0 ≤ M) : -(M * N) ≤ a * b ∧ a * b ≤ M * N := by
  have h1 : (a * b).natAbs ≤ (M * N).natAbs := by
    rw [Int.natAbs_mul, Int.natAbs_mul]
    exact Nat.mul_le_mul (by omega) (by omega)
  have h2 : 0 ≤ M * N := Int.mul_nonneg hM (by omega)
  omega
theorem fpc_lt (x : Fr) (L : List Fr) : fpc x L ≤ 2 * L.length := by
  unfold fpc
  have := fpos_le x L
  split <;> omega
theorem pc_loop {u : KS} {L : List Fr} {post : Int32 → Prop} {pa pb : Int} (hr : kRel u L) (ha : -200000 ≤ pa ∧ pa ≤ 200000) (hb0 : 0 < pb) (hb : pb ≤ 200000) (h : post (nI (fpc (fred pa pb) L))) : ∀ m k, k + m = L.length → (∀ j, j < k → flt (fg L j) (fred pa pb)) → ∃ n, w_K_pieceOf_3 u post n (jL pa) (jL pb) (nI k) := by
  obtain ⟨hc, hlen, hup, hcell⟩ := hr
  intro m
  induction m with
  | zero =>
    intro k hk hj
    refine ⟨1, ?_⟩
    rw [w_K_pieceOf_3, hc]
    have e : fpos (fred pa pb) L = L.length := fpos_eq (Nat.le_refl _) (fun j q => hj j (by omega)) (fun q => absurd q (by omega))
    have e2 : fpc (fred pa pb) L = 2 * L.length := by unfold fpc; rw [e, if_neg (by omega)]
    rw [e2] at h
    refine ⟨fun _ => ?_, fun c => absurd (nI_le (a := L.length) (b := k) (by omega) (by omega)) c⟩
    have : (2 : Int32) * nI L.length = nI (2 * L.length) := pk_mul 2 _
    rw [this]; exact h
  | succ m ih =>
    intro k hk hj
    obtain ⟨a, b, e1, e2, a1, a2, b1, b2, e3⟩ := hcell k (by omega)
    have hlt : flt (fg L k) (fred pa pb) ↔ a * pb < pa * b := by rw [← e3]; exact flt_red b1 hb0
    have heq : fg L k = fred pa pb ↔ a * pb = pa * b := by rw [← e3]; exact fred_cross b1 hb0
    have m1 := mulb (a := pa) (b := b) (M := 200000) (N := 200000) ha (by omega) (by omega)
    have m2 := mulb (a := a) (b := pb) (M := 200000) (N := 200000) ⟨a1, a2⟩ (by omega) (by omega)
    have hcl : (nI k).toNatClampNeg = k := nI_clamp (by omega)
    have hnot : ¬ nI L.length ≤ nI k := nI_ge (by omega) (by omega)
    have h2k : (2 : Int32) * nI k = nI (2 * k) := pk_mul 2 _
    by_cases c : flt (fg L k) (fred pa pb)
    · obtain ⟨n, hn⟩ := ih (k + 1) (by omega) (fun j hj2 => by
        rcases Nat.lt_or_ge j k with q | q
        · exact hj j q
        · rw [show j = k by omega]; exact c)
      refine ⟨n + 1, ?_⟩
      rw [w_K_pieceOf_3, hc]
      refine ⟨fun q => absurd q hnot, fun _ => ⟨vp_in_nI (by omega) (by decide), ?_⟩⟩
      rw [hcl, e1, e2, jL_mul, jL_mul]
      have c' := hlt.mp c
      refine jcmp (by omega) (by omega) (fun q => absurd q (by omega)) (fun q => absurd q (by omega)) (fun _ => ?_)
      refine ⟨fun _ => ?_, fun q => absurd (by decide) q⟩
      rw [nI_1]; exact hn
    · have hpos : fpos (fred pa pb) L = k := fpos_eq (by omega) hj (fun _ => c)
      refine ⟨1, ?_⟩
      rw [w_K_pieceOf_3, hc]
      refine ⟨fun q => absurd q hnot, fun _ => ⟨vp_in_nI (by omega) (by decide), ?_⟩⟩
      rw [hcl, e1, e2, jL_mul, jL_mul]
      refine jcmp (by omega) (by omega) (fun q => ?_) (fun q => ?_) (fun q => absurd (hlt.mpr q) c)
      · refine ⟨fun z => absurd z (by decide), fun _ => ⟨fun _ => ?_, fun z => absurd z (by decide)⟩⟩
        rw [h2k]
        have : fpc (fred pa pb) L = 2 * k := by
          unfold fpc
          rw [hpos, if_neg (fun z => by have := heq.mp z.2; omega)]
        rw [← this]; exact h
      · refine ⟨fun z => absurd z (by decide), fun _ => ⟨fun z => absurd rfl z, fun _ => ?_⟩⟩
        rw [h2k, nI_1]
        have : fpc (fred pa pb) L = 2 * k + 1 := by
          unfold fpc
          rw [hpos, if_pos ⟨by omega, heq.mpr (by omega)⟩]
        rw [← this]; exact h
/-- pieceOf -/
theorem k_pc {u : KS} {L : List Fr} {post : Int32 → Prop} {pa pb : Int} (hr : kRel u L) (ha : -200000 ≤ pa ∧ pa ≤ 200000) (hb0 : 0 < pb) (hb : pb ≤ 200000) (h : post (nI (fpc (fred pa pb) L))) : w_K_pieceOf u post (jL pa) (jL pb) := by
  unfold w_K_pieceOf
  exact pc_loop hr ha hb0 hb h L.length 0 (by omega) (fun j q => absurd q (by omega))
/-- the rows moved up from c on -/
def shf (f : Nat → Int64) (c n : Nat) : Nat → Int64 := fun j => if c < j ∧ j ≤ n then f (j - 1) else f j
theorem ins_loop {u0 : KS} {post : KS → Prop} {ma mb : Int64} {p n : Nat} (hn : n < 15) (h : ∀ s : KS, KS.cnt s = KS.cnt u0 → (∀ j, KS.up s j = if j = p then ma else shf (KS.up u0) p n j) → (∀ j, KS.dn s j = if j = p then mb else shf (KS.dn u0) p n j) → post (KS.set_cnt s (KS.cnt s + 1))) : ∀ m s, p + m ≤ n → KS.cnt s = KS.cnt u0 → (∀ j, KS.up s j = shf (KS.up u0) (p + m) n j) → (∀ j, KS.dn s j = shf (KS.dn u0) (p + m) n j) → ∃ z, w_K_insert_38 post z s ma mb (nI p) (nI (p + m)) := by
  intro m
  induction m with
  | zero =>
    intro s hp hc h1 h2
    refine ⟨1, ?_⟩
    rw [w_K_insert_38]
    refine ⟨fun _ => ⟨vp_in_nI (by omega) (by decide), ?_⟩, fun c => absurd (nI_le (a := p + 0) (b := p) (by omega) (by omega)) c⟩
    rw [nI_clamp (by omega)]
    have key := h (KS.set_dn (KS.set_up s (vp_updL (KS.up s) p ma)) (vp_updL (KS.dn s) p mb)) hc (fun j => ?_) (fun j => ?_)
    · exact key
    · show vp_updL (KS.up s) p ma j = _
      unfold vp_updL
      split
      · rfl
      · exact h1 j
    · show vp_updL (KS.dn s) p mb j = _
      unfold vp_updL
      split
      · rfl
      · exact h2 j
  | succ m ih =>
    intro s hp hc h1 h2
    have step : ∀ f g : Nat → Int64, (∀ j, g j = shf f (p + (m + 1)) n j) → ∀ j, vp_updL g (p + (m + 1)) (g (p + m)) j = shf f (p + m) n j := by
      intro f g hg j
      unfold vp_updL
      split
      · rename_i e
        rw [hg, e]
        unfold shf
        rw [if_neg (by omega), if_pos (by omega)]
        congr 1
      · rename_i e
        rw [hg]
        unfold shf
        by_cases q : p + (m + 1) < j ∧ j ≤ n
        · rw [if_pos q, if_pos (by omega)]
        · rw [if_neg q, if_neg (by omega)]
    obtain ⟨z, hz⟩ := ih (KS.set_dn (KS.set_up s (vp_updL (KS.up s) (p + (m + 1)) (KS.up s (p + m)))) (vp_updL (KS.dn s) (p + (m + 1)) (KS.dn s (p + m)))) (by omega) hc (step _ _ h1) (step _ _ h2)
    refine ⟨z + 1, ?_⟩
    rw [w_K_insert_38]
    have e1 : nI (p + (m + 1)) - 1 = nI (p + m) := nI_pred (p + m)
    have e2 : nI (p + (m + 1)) + (-1) = nI (p + m) := pk_m1 (p + m)
    rw [e1, e2, nI_clamp (show p + m < 2 ^ 31 by omega), nI_clamp (show p + (m + 1) < 2 ^ 31 by omega)]
    exact ⟨fun c => absurd c (nI_ge (by omega) (by omega)), fun _ => ⟨vp_in_nI (by omega) (by decide), vp_in_nI (by omega) (by decide), hz⟩⟩
/-- insert -/
theorem k_ins {u : KS} {L : List Fr} {post : KS → Prop} {ma mb : Int} (hr : kRel u L) (ha : -200000 ≤ ma ∧ ma ≤ 200000) (hb0 : 0 < mb) (hb : mb ≤ 200000) (hroom : L.length < 15 ∨ fins (fred ma mb) L = L) (h : ∀ u', kRel u' (fins (fred ma mb) L) → post u') : w_K_insert u post (jL ma) (jL mb) := by
  unfold w_K_insert
  refine k_pc hr ha hb0 hb ?_
  have hle := fpos_le (fred ma mb) L
  have hl15 := hr.2.1
  have hb2 := fpc_lt (fred ma mb) L
  have hrem : nI (fpc (fred ma mb) L) - nI (fpc (fred ma mb) L) / 2 * 2 = nI (fpc (fred ma mb) L % 2) := pk_rem (d := 2) (by omega) (by decide) (by decide)
  have hdiv : nI (fpc (fred ma mb) L) / 2 = nI (fpc (fred ma mb) L / 2) := pk_div (d := 2) (by omega) (by decide) (by decide)
  by_cases c : fpos (fred ma mb) L < L.length ∧ fg L (fpos (fred ma mb) L) = fred ma mb
  · have e : fpc (fred ma mb) L = 2 * fpos (fred ma mb) L + 1 := by unfold fpc; rw [if_pos c]
    have hsame := fins_in c.1 c.2
    refine ⟨fun _ => h u (by rw [hsame]; exact hr), fun q => absurd ?_ q⟩
    rw [hrem, e, show (2 * fpos (fred ma mb) L + 1) % 2 = 1 by omega]
    rfl
  · have e : fpc (fred ma mb) L = 2 * fpos (fred ma mb) L := by unfold fpc; rw [if_neg c]
    obtain ⟨n1, n2⟩ := fins_new c
    have h15 : L.length < 15 := by
      rcases hroom with q | q
      · exact q
      · rw [q] at n1; omega
    obtain ⟨hc, hlen, hup, hcell⟩ := id hr
    refine ⟨fun q => absurd q ?_, fun _ => ⟨fun _ => ?_, fun q => absurd ?_ q⟩⟩
    · rw [hrem, e, show (2 * fpos (fred ma mb) L) % 2 = 0 by omega]
      decide
    · intro y4 h4 y5 h5
      rw [hdiv, e, show 2 * fpos (fred ma mb) L / 2 = fpos (fred ma mb) L by omega] at h4
      rw [hc] at h5
      subst h4 h5
      obtain ⟨d, hd⟩ : ∃ d, L.length = fpos (fred ma mb) L + d := ⟨L.length - fpos (fred ma mb) L, by omega⟩
      generalize hp : fpos (fred ma mb) L = p at *
      rw [hd]
      have sh0 : ∀ f : Nat → Int64, ∀ j, f j = shf f (p + d) L.length j := fun f j => by unfold shf; rw [if_neg (by omega)]
      refine ins_loop (u0 := u) (n := L.length) h15 (fun s s1 s2 s3 => h _ ?_) d u (by omega) rfl (sh0 _) (sh0 _)
      refine ⟨?_, by rw [n1]; omega, fup_ins (fok_red ma mb (by omega)) hup, fun j hj => ?_⟩
      · show KS.cnt s + 1 = _
        rw [s1, hc, n1, nI_1]
      · rw [n1] at hj
        rw [n2 j]
        show ∃ a b : Int, KS.up s j = jL a ∧ KS.dn s j = jL b ∧ _
        rw [s2 j, s3 j]
        by_cases q1 : j = p
        · rw [if_pos q1, if_pos q1, if_neg (by omega), if_pos q1]
          exact ⟨ma, mb, rfl, rfl, ha.1, ha.2, hb0, hb, rfl⟩
        · rw [if_neg q1, if_neg q1]
          unfold shf
          by_cases q2 : j < p
          · rw [if_neg (by omega), if_neg (by omega), if_pos q2]
            exact hcell j (by omega)
          · rw [if_pos (by omega), if_pos (by omega), if_neg q2, if_neg q1]
            exact hcell (j - 1) (by omega)
    · rw [hc]
      exact nI_lt (b := 15) h15 (by decide)
