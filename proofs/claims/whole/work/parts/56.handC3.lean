/-! by hand: a strip is laid, all are -/
/-- the place of line k in strip s -/
def plc (a b c : Nat → Int) (n s k : Nat) : Int32 := if b k = 0 then -1 else nI (fpc (hgt a b c (smp (cutI a b c n) s) k) (crv a b c n s))
/-- strip s is laid -/
def sOk (st : CS) (n : Nat) (a b c : Nat → Int) (s : Nat) : Prop := CS.sa st s = jL (smp (cutI a b c n) s).1 ∧ CS.sb st s = jL (smp (cutI a b c n) s).2 ∧ ∀ k, k < n → CS.pl st s k = plc a b c n s k
theorem fst_lt (a b c : Nat → Int) (n : Nat) : ∀ s, fst' a b c n s ≤ s * (2 * n + 1)
  | 0 => Nat.zero_le _
  | s + 1 => by
    have h := fst_lt a b c n s
    have h2 : (crv a b c n s).length ≤ n := hts_len a b c _ n
    have e : (s + 1) * (2 * n + 1) = s * (2 * n + 1) + (2 * n + 1) := Nat.succ_mul s _
    rw [fst', e]
    omega
theorem ls_loop {st0 : CS} {post : CS → Prop} {n : Nat} {a b c : Nat → Int} {s : Nat} (hl : cLin st0 n a b c) (hh : kRel (CS.he st0) (crv a b c n s)) (hs : s < 31) (hx : fsm 10400 (smp (cutI a b c n) s)) (hf : CS.fc st0 s = nI (fst' a b c n s))
    (h : ∀ p, (∀ j, j ≠ s → p j = CS.pl st0 j) → (∀ k, k < n → p s k = plc a b c n s k) → post (CS.set_fc (CS.set_pl st0 p) (upd (CS.fc st0) (s + 1) (nI (fst' a b c n (s + 1)))))) :
    ∀ m i, i + m = n → ∀ p, (∀ j, j ≠ s → p j = CS.pl st0 j) → (∀ k, k < i → p s k = plc a b c n s k) → w_C_layStrip_46 post (m + 1) (CS.set_pl st0 p) (nI s) (jL (smp (cutI a b c n) s).1) (jL (smp (cutI a b c n) s).2) (nI i) := by
  obtain ⟨hlc, hn, hlok, hcell⟩ := id hl
  have hcl : (nI s).toNatClampNeg = s := nI_clamp (by omega)
  intro m
  induction m with
  | zero =>
    intro i hi p h1 h2
    rw [w_C_layStrip_46, show CS.lc (CS.set_pl st0 p) = nI n from hlc]
    have e : i = n := by omega
    subst e
    refine ⟨fun _ => ⟨vp_in_nI (by omega) (by decide), by rw [nI_1]; exact vp_in_nI (by omega) (by decide), ?_⟩, fun q => absurd (nI_le (Nat.le_refl i) (by omega)) q⟩
    have e1 : (((CS.fc (CS.set_pl st0 p)) (nI s).toNatClampNeg) + (2 * (KS.cnt (CS.he (CS.set_pl st0 p))))) + 1 = nI (fst' a b c i (s + 1)) := by
      rw [hcl, show CS.fc (CS.set_pl st0 p) s = nI (fst' a b c i s) from hf, show KS.cnt (CS.he (CS.set_pl st0 p)) = nI (crv a b c i s).length from hh.1]
      have e2 : (2 : Int32) * nI (crv a b c i s).length = nI (2 * (crv a b c i s).length) := pk_mul 2 _
      rw [e2, nI_add, nI_1, fst']
    rw [e1, nI_1, nI_clamp (show s + 1 < 2 ^ 31 by omega)]
    exact h p h1 h2
  | succ m ih =>
    intro i hi p h1 h2
    rw [w_C_layStrip_46, show CS.lc (CS.set_pl st0 p) = nI n from hlc]
    refine ⟨fun q => absurd q (nI_ge (by omega) (by omega)), fun _ => ⟨vp_in_nI (by omega) (by decide), vp_in_nI (by omega) (by decide), ?_⟩⟩
    obtain ⟨e1, e2, e3⟩ := hcell i (by omega)
    obtain ⟨l1, l2, l3, l4⟩ := hlok i (by omega)
    have hl' : cLin (CS.set_pl st0 p) n a b c := hl
    rw [hcl, nI_clamp (show i < 2 ^ 31 by omega), show CS.b (CS.set_pl st0 p) i = jI (b i) from e2, jI_0, jI_eq (show inI (b i) by omega) (show inI 0 by omega), nI_1]
    have step : ∀ v, v = plc a b c n s i → w_C_layStrip_46 post (m + 1) (CS.set_pl st0 (va_up p s (upd (p s) i v))) (nI s) (jL (smp (cutI a b c n) s).1) (jL (smp (cutI a b c n) s).2) (nI (i + 1)) := by
      intro v hv
      refine ih (i + 1) (by omega) _ (fun j hj => ?_) (fun k hk => ?_)
      · rw [va_up_ne _ _ hj]; exact h1 j hj
      · rw [va_up_self]
        by_cases q : k = i
        · rw [q, pk_us]; exact hv
        · rw [pk_un q]; exact h2 k (by omega)
    refine ⟨fun hb => ?_, fun hb => ?_⟩
    · obtain ⟨q1, q2, q3, q4⟩ := hAB hlok (show i < n by omega) hb hx
      refine c_hA hl' (by omega) (c_hB hl' (by omega) ?_)
      refine k_pc (L := crv a b c n s) hh q2 q3 q4 ?_
      refine step _ ?_
      unfold plc
      rw [if_neg hb, q1]
    · refine step _ ?_
      unfold plc
      rw [if_pos hb]
/-- layStrip -/
theorem c_ls {st : CS} {post : CS → Prop} {n : Nat} {a b c : Nat → Int} {s : Nat} (hl : cLin st n a b c) (hc : kRel (CS.cu st) (cutI a b c n)) (hs : s ≤ 2 * (cutI a b c n).length) (hf : CS.fc st s = nI (fst' a b c n s))
    (h : ∀ k p, (∀ j, j ≠ s → p j = CS.pl st j) → (∀ k, k < n → p s k = plc a b c n s k) → post (CS.set_fc (CS.set_pl (CS.set_he (CS.set_sb (CS.set_sa st (vp_updL (CS.sa st) s (jL (smp (cutI a b c n) s).1))) (vp_updL (CS.sb st) s (jL (smp (cutI a b c n) s).2))) k) p) (upd (CS.fc st) (s + 1) (nI (fst' a b c n (s + 1)))))) : w_C_layStrip st post (nI s) := by
  have h15 := hc.2.1
  have hlok := hl.2.2.1
  have hn := hl.2.1
  have hx := smp_sm (cutI_sm hlok n (Nat.le_refl n)) s hs
  unfold w_C_layStrip
  refine k_smp hc hs (k_smp hc hs ⟨vp_in_nI (by omega) (by decide), ?_⟩)
  rw [nI_clamp (show s < 2 ^ 31 by omega)]
  have f0 : fprt (smp (cutI a b c n) s) (0 : Int32) = (smp (cutI a b c n) s).1 := by unfold fprt; rw [if_pos rfl]
  have f1 : fprt (smp (cutI a b c n) s) (1 : Int32) = (smp (cutI a b c n) s).2 := by unfold fprt; rw [if_neg (by decide)]
  rw [f0, f1]
  refine c_mh (x := smp (cutI a b c n) s) (st := CS.set_sb (CS.set_sa st _) _) hl hx (fun k hk => ⟨n + 1, ?_⟩)
  refine ls_loop (post := post) (st0 := CS.set_he (CS.set_sb (CS.set_sa st (vp_updL (CS.sa st) s (jL (smp (cutI a b c n) s).1))) (vp_updL (CS.sb st) s (jL (smp (cutI a b c n) s).2))) k) (s := s) hl hk (by omega) hx hf (fun p p1 p2 => h k p p1 p2) n 0 (by omega) (CS.pl st) (fun _ _ => rfl) (fun j hj => absurd hj (by omega))
/-- the class holds the lines, and all that is read off them -/
def cInv (st : CS) (n : Nat) (a b c : Nat → Int) : Prop := cLin st n a b c ∧ kRel (CS.cu st) (cutI a b c n) ∧ (∀ s, s ≤ 2 * (cutI a b c n).length → sOk st n a b c s) ∧ ∀ s, s ≤ 2 * (cutI a b c n).length + 1 → CS.fc st s = nI (fst' a b c n s)
theorem rb_loop {post : CS → Prop} {n : Nat} {a b c : Nat → Int} (h : ∀ st, cInv st n a b c → post st) : ∀ m s st, s + m = 2 * (cutI a b c n).length + 1 → cLin st n a b c → kRel (CS.cu st) (cutI a b c n) → (∀ j, j < s → sOk st n a b c j) → (∀ j, j ≤ s → CS.fc st j = nI (fst' a b c n j)) → w_C_rebuild_18 post (m + 1) st (nI (2 * (cutI a b c n).length + 1)) (nI s) := by
  intro m
  induction m with
  | zero =>
    intro s st hs hl hc h1 h2
    have h15 := hc.2.1
    rw [w_C_rebuild_18]
    have e : s = 2 * (cutI a b c n).length + 1 := by omega
    exact ⟨fun _ => h st ⟨hl, hc, fun j hj => h1 j (by omega), fun j hj => h2 j (by omega)⟩, fun q => absurd (nI_le (by omega) (by omega)) q⟩
  | succ m ih =>
    intro s st hs hl hc h1 h2
    have h15 := hc.2.1
    rw [w_C_rebuild_18]
    refine ⟨fun q => absurd q (nI_ge (by omega) (by omega)), fun _ => ?_⟩
    refine c_ls hl hc (by omega) (h2 s (Nat.le_refl s)) (fun k p p1 p2 => ?_)
    rw [nI_1]
    refine ih (s + 1) _ (by omega) hl hc (fun j hj => ?_) (fun j hj => ?_)
    · by_cases q : j = s
      · subst q
        exact ⟨pk_uLs, pk_uLs, p2⟩
      · obtain ⟨q1, q2, q3⟩ := h1 j (by omega)
        refine ⟨(pk_uLn q).trans q1, (pk_uLn q).trans q2, fun k hk => ?_⟩
        show p j k = _
        rw [p1 j q]
        exact q3 k hk
    · show upd (CS.fc st) (s + 1) (nI (fst' a b c n (s + 1))) j = _
      by_cases q : j = s + 1
      · rw [q, pk_us]
      · rw [pk_un q]; exact h2 j (by omega)
/-- rebuild -/
theorem c_rb {st : CS} {post : CS → Prop} {n : Nat} {a b c : Nat → Int} (hl : cLin st n a b c) (h : ∀ st, cInv st n a b c → post st) : w_C_rebuild st post := by
  unfold w_C_rebuild
  refine c_gather hl (fun k hk => ?_)
  unfold w_C_stripCount
  have e : (2 : Int32) * KS.cnt (CS.cu (CS.set_cu st k)) + 1 = nI (2 * (cutI a b c n).length + 1) := by
    rw [show KS.cnt (CS.cu (CS.set_cu st k)) = nI (cutI a b c n).length from hk.1]
    have e2 : (2 : Int32) * nI (cutI a b c n).length = nI (2 * (cutI a b c n).length) := pk_mul 2 _
    rw [e2, nI_1]
  rw [e]
  refine ⟨2 * (cutI a b c n).length + 1 + 1, rb_loop h _ 0 _ (by omega) hl hk (fun j hj => absurd hj (by omega)) (fun j hj => ?_)⟩
  have : j = 0 := by omega
  subst this
  show upd (CS.fc (CS.set_cu st k)) ((0 : Int32).toNatClampNeg) 0 0 = _
  rw [show (0 : Int32).toNatClampNeg = 0 by decide]
  exact pk_us
