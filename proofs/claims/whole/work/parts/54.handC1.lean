/-! by hand: the class gathers its cuts -/
/-- the class holds the lines a, b, c -/
def cLin (s : CS) (n : Nat) (a b c : Nat → Int) : Prop := CS.lc s = nI n ∧ n ≤ 6 ∧ lok n a b c ∧ ∀ i, i < n → CS.a s i = jI (a i) ∧ CS.b s i = jI (b i) ∧ CS.c s i = jI (c i)
theorem fred_neg (u d : Int) (hd : d ≠ 0) : fred (-u) (-d) = fred u d := by
  have := fred_scale (-1) u d (by omega) hd
  rw [Int.neg_one_mul, Int.neg_one_mul] at this
  exact this
theorem c_addCut {st : CS} {L : List Fr} {post : CS → Prop} {u d : Int} (hr : kRel (CS.cu st) L) (hu : -1000 ≤ u ∧ u ≤ 1000) (hd : -1000 ≤ d ∧ d ≤ 1000) (hroom : d ≠ 0 → L.length < 15 ∨ fins (fred u d) L = L) (h : ∀ k, kRel k (if d = 0 then L else fins (fred u d) L) → post (CS.set_cu st k)) : w_C_addCut st post (jI u) (jI d) := by
  unfold w_C_addCut
  have iu : inI u := by omega
  have id' : inI d := by omega
  have i0 : inI 0 := by omega
  rw [jI_0, jI_le id' i0, jI_le i0 id', jI_neg, jI_neg, jI_l (show inI (-u) by omega), jI_l (show inI (-d) by omega), jI_l iu, jI_l id']
  refine ⟨fun c => ⟨fun c2 => ?_, fun c2 => ?_⟩, fun c => ?_⟩
  · have := h (CS.cu st) (by rw [if_pos (by omega)]; exact hr)
    exact this
  · refine k_ins hr (by omega) (by omega) (by omega) (by rw [fred_neg u d (by omega)]; exact hroom (by omega)) (fun k hk => h k ?_)
    rw [if_neg (by omega)]
    rw [fred_neg u d (by omega)] at hk
    exact hk
  · refine k_ins hr (by omega) (by omega) (by omega) (hroom (by omega)) (fun k hk => h k ?_)
    rw [if_neg (by omega)]
    exact hk
theorem det_small {p q r s : Int} (hp : -6 ≤ p ∧ p ≤ 6) (hq : -6 ≤ q ∧ q ≤ 6) (hr : -6 ≤ r ∧ r ≤ 6) (hs : -6 ≤ s ∧ s ≤ 6) : -1000 ≤ p * q - r * s ∧ p * q - r * s ≤ 1000 := by
  have := mulb (M := 6) (N := 6) hp hq (by omega)
  have := mulb (M := 6) (N := 6) hr hs (by omega)
  omega
theorem g_in {st0 : CS} {post : CS → Prop} {K10 : CS → Int32 → Prop} {n : Nat} {a b c : Nat → Int} {i : Nat} {L : List Fr} (hl : cLin st0 n a b c) (hi : i < n) (hL : fup L) (hup : ∀ j, j < i → b j = 0 → inF (fred (-(c j)) (a j)) L) (hme : b i = 0 → inF (fred (-(c i)) (a i)) L) (hlen : b i ≠ 0 → L.length ≤ bdN b i) (hK : ∀ k, kRel k (cutJ a b c i i L) → K10 (CS.set_cu st0 k) (nI (i + 1))) : ∀ m j, j + m = i → ∀ k, kRel k (cutJ a b c i j L) → w_C_gatherCuts_46 post K10 (m + 1) (CS.set_cu st0 k) (nI i) (nI j) := by
  obtain ⟨hlc, hn, hlok, hcell⟩ := hl
  intro m
  induction m with
  | zero =>
    intro j hj k hk
    rw [w_C_gatherCuts_46]
    have e : j = i := by omega
    subst e
    exact ⟨fun _ => by rw [nI_1]; exact hK k hk, fun q => absurd (nI_le (Nat.le_refl j) (by omega)) q⟩
  | succ m ih =>
    intro j hj k hk
    rw [w_C_gatherCuts_46]
    refine ⟨fun q => absurd q (nI_ge (by omega) (by omega)), fun _ => ⟨vp_in_nI (by omega) (by decide), vp_in_nI (by omega) (by decide), ?_⟩⟩
    rw [nI_clamp (show i < 2 ^ 31 by omega), nI_clamp (show j < 2 ^ 31 by omega)]
    obtain ⟨e1, e2, e3⟩ := hcell i hi
    obtain ⟨e1', e2', e3'⟩ := hcell j (by omega)
    obtain ⟨l1, l2, l3, -⟩ := hlok i hi
    obtain ⟨l1', l2', l3', -⟩ := hlok j (by omega)
    rw [show CS.a (CS.set_cu st0 k) i = jI (a i) from e1, show CS.b (CS.set_cu st0 k) i = jI (b i) from e2, show CS.c (CS.set_cu st0 k) i = jI (c i) from e3, show CS.a (CS.set_cu st0 k) j = jI (a j) from e1', show CS.b (CS.set_cu st0 k) j = jI (b j) from e2', show CS.c (CS.set_cu st0 k) j = jI (c j) from e3', jI_mul, jI_mul, jI_mul, jI_mul, jI_sub, jI_sub]
    refine c_addCut (L := cutJ a b c i j L) hk (det_small l2 l3' l2' l3) (det_small l1 l2' l1' l2) (fun hd => cut_room hlok hn hi (by omega) hd hL hup hme hlen) (fun k' hk' => ?_)
    rw [nI_1]
    refine ih (j + 1) (by omega) k' ?_
    rw [cutJ]
    exact hk'
theorem g_out {st0 : CS} {post : CS → Prop} {n : Nat} {a b c : Nat → Int} (hl : cLin st0 n a b c) (h : ∀ k, kRel k (cutI a b c n) → post (CS.set_cu st0 k)) : ∀ m i, i + m = n → ∀ k, kRel k (cutI a b c i) → w_C_gatherCuts_10 post (m + 1) (CS.set_cu st0 k) (nI i) := by
  obtain ⟨hlc, hn, hlok, hcell⟩ := id hl
  intro m
  induction m with
  | zero =>
    intro i hi k hk
    rw [w_C_gatherCuts_10, show CS.lc (CS.set_cu st0 k) = nI n from hlc]
    have e : i = n := by omega
    subst e
    exact ⟨fun _ => h k hk, fun q => absurd (nI_le (Nat.le_refl i) (by omega)) q⟩
  | succ m ih =>
    intro i hi k hk
    rw [w_C_gatherCuts_10, show CS.lc (CS.set_cu st0 k) = nI n from hlc]
    refine ⟨fun q => absurd q (nI_ge (by omega) (by omega)), fun _ => ⟨vp_in_nI (by omega) (by decide), ?_⟩⟩
    rw [nI_clamp (show i < 2 ^ 31 by omega)]
    obtain ⟨e1, e2, e3⟩ := hcell i (by omega)
    obtain ⟨l1, l2, l3, l4⟩ := hlok i (by omega)
    obtain ⟨o1, o2, o3⟩ := cut_ok hlok i (by omega)
    rw [show CS.a (CS.set_cu st0 k) i = jI (a i) from e1, show CS.b (CS.set_cu st0 k) i = jI (b i) from e2, show CS.c (CS.set_cu st0 k) i = jI (c i) from e3, jI_0, jI_eq (show inI (b i) by omega) (show inI 0 by omega), jI_neg]
    refine ⟨fun hb => ⟨i + 1, ?_⟩, fun hb => ?_⟩
    · refine g_in (L := cutI a b c i) hl (by omega) o1 o3 (fun q => absurd q hb) (fun _ => o2) (fun k' hk' => ih (i + 1) (by omega) k' ?_) i 0 (by omega) k hk
      rw [cutI, if_neg hb]
      exact hk'
    · have ha : a i ≠ 0 := fun q => l4 ⟨q, hb⟩
      refine c_addCut (L := cutI a b c i) hk (by omega) (by omega) (fun _ => ?_) (fun k' hk' => ⟨i + 1, ?_⟩)
      · left
        have := bdN_15 b (n := i + 1) (by omega)
        have e : bdN b (i + 1) = bdN b i + 1 := by rw [bdN, if_pos hb]
        omega
      · rw [if_neg ha] at hk'
        refine g_in (L := fins (fred (-(c i)) (a i)) (cutI a b c i)) hl (by omega) (fup_ins (fok_red _ _ ha) o1) (fun j hj q => inF_keep (o3 j hj q)) (fun _ => inF_self _ _) (fun q => absurd hb q) (fun k2 hk2 => ih (i + 1) (by omega) k2 ?_) i 0 (by omega) k' hk'
        rw [cutI, if_pos hb]
        exact hk2
/-- gatherCuts -/
theorem c_gather {st : CS} {post : CS → Prop} {n : Nat} {a b c : Nat → Int} (hl : cLin st n a b c) (h : ∀ k, kRel k (cutI a b c n) → post (CS.set_cu st k)) : w_C_gatherCuts st post := by
  unfold w_C_gatherCuts
  exact ⟨n + 1, g_out hl h n 0 (by omega) _ ⟨rfl, Nat.zero_le _, fup_nil, fun j hj => absurd hj (Nat.not_lt_zero j)⟩⟩
