/-! by hand: samples -/
theorem fred01 : fred 0 1 = (0, 1) := by decide
theorem fred_mul {u d U D : Int} (hd : 0 < d) (h : fred u d = (U, D)) : ∃ g : Int, 0 < g ∧ u = g * U ∧ d = g * D ∧ 0 < D := by
  obtain ⟨g, -, h1, h2, h3, h4⟩ := fred_spec u d (by omega)
  rw [h] at h1 h2 h3
  exact ⟨g, h4 hd, h1, h2, h3⟩
theorem fred_less {u d U D : Int} (hd : 0 < d) (h : fred u d = (U, D)) : fred (u - d) d = fred (U - D) D := by
  obtain ⟨g, g0, rfl, rfl, hD⟩ := fred_mul hd h
  refine fred_eq (by omega) (by omega) ?_
  grind
theorem fred_more {u d U D : Int} (hd : 0 < d) (h : fred u d = (U, D)) : fred (u + d) d = fred (U + D) D := by
  obtain ⟨g, g0, rfl, rfl, hD⟩ := fred_mul hd h
  refine fred_eq (by omega) (by omega) ?_
  grind
theorem fred_mid {u d U D u' d' U' D' : Int} (hd : 0 < d) (hd' : 0 < d') (h : fred u d = (U, D)) (h' : fred u' d' = (U', D')) : fred (u * d' + u' * d) (2 * d * d') = fred (U * D' + U' * D) (2 * D * D') := by
  obtain ⟨g, g0, rfl, rfl, hD⟩ := fred_mul hd h
  obtain ⟨g', g0', rfl, rfl, hD'⟩ := fred_mul hd' h'
  have p1 := Int.mul_pos hd hd'
  have p2 := Int.mul_pos hD hD'
  refine fred_eq (by rw [Int.mul_assoc]; omega) (by rw [Int.mul_assoc]; omega) ?_
  grind
theorem k_smp {u : KS} {L : List Fr} {post : Int64 → Prop} {s : Nat} {q : Int32} (hr : kRel u L) (hs : s ≤ 2 * L.length) (h : post (jL (fprt (smp L s) q))) : w_K_samplePart u post (nI s) q := by
  obtain ⟨hc, hlen, hup, hcell⟩ := hr
  have hdiv : nI s / 2 = nI (s / 2) := pk_div (d := 2) (by omega) (by decide) (by decide)
  have hrem : nI s - nI s / 2 * 2 = nI (s % 2) := pk_rem (d := 2) (by omega) (by decide) (by decide)
  unfold w_K_samplePart
  rw [hc, hrem, hdiv]
  by_cases h0 : L.length = 0
  · unfold smp at h
    rw [if_pos h0] at h
    refine ⟨fun c => absurd c ?_, fun _ => ?_⟩
    · rw [h0]; decide
    · refine k_red (u := 0) (d := 1) (by omega) (by omega) (by omega) ?_
      rw [fred01]; exact h
  · unfold smp at h
    rw [if_neg h0] at h
    refine ⟨fun _ => ⟨fun c => ?_, fun c => ?_⟩, fun c => absurd (nI_lt (a := 0) (by omega) (by omega)) c⟩
    · have s0 : s ≠ 0 := by
        intro e
        rw [e] at c
        exact absurd c (by decide)
      rw [if_neg s0] at h
      intro y hy
      subst hy
      refine ⟨fun c2 => ?_, fun c2 => ?_⟩
      · have k1 : s / 2 < L.length := (nI_ltI (by omega) (by omega)).mp c2
        rw [if_neg (by omega)] at h
        have hcl : (nI (s / 2)).toNatClampNeg = s / 2 := nI_clamp (by omega)
        refine ⟨fun c3 => ?_, fun c3 => ?_⟩
        · have ev : s % 2 = 0 := by
            rcases Nat.mod_two_eq_zero_or_one s with z | z
            · exact z
            · rw [z] at c3; exact absurd rfl c3
          rw [if_neg (by omega)] at h
          have hm1 : nI (s / 2) - 1 = nI (s / 2 - 1) := by
            obtain ⟨k, hk⟩ : ∃ k, s / 2 = k + 1 := ⟨s / 2 - 1, by omega⟩
            rw [hk]; exact nI_pred k
          rw [hm1, hcl, nI_clamp (show s / 2 - 1 < 2 ^ 31 by omega)]
          obtain ⟨a, b, e1, e2, a1, a2, b1, b2, e3⟩ := hcell (s / 2 - 1) (by omega)
          obtain ⟨a', b', e1', e2', a1', a2', b1', b2', e3'⟩ := hcell (s / 2) k1
          refine ⟨vp_in_nI (by omega) (by decide), vp_in_nI (by omega) (by decide), fun y hy => ?_⟩
          rw [e1, e2, e1', e2', jL_mul, jL_mul, jL_add] at hy
          subst hy
          rw [e2, e2', jL_2, jL_mul, jL_mul]
          have m1 := mulb (a := a) (b := b') (M := 200000) (N := 200000) ⟨a1, a2⟩ (by omega) (by omega)
          have m2 := mulb (a := a') (b := b) (M := 200000) (N := 200000) ⟨a1', a2'⟩ (by omega) (by omega)
          have m3 := mulb (a := b) (b := b') (M := 200000) (N := 200000) (by omega) (by omega) (by omega)
          have m4 := Int.mul_pos b1 b1'
          refine k_red (by omega) (by rw [Int.mul_assoc]; omega) (by rw [Int.mul_assoc]; omega) ?_
          rw [fred_mid b1 b1' (U := (fg L (s / 2 - 1)).1) (D := (fg L (s / 2 - 1)).2) e3 (U' := (fg L (s / 2)).1) (D' := (fg L (s / 2)).2) e3']
          exact h
        · have od : s % 2 = 1 := by
            rcases Nat.mod_two_eq_zero_or_one s with z | z
            · rw [z] at c3; exact absurd c3 (by decide)
            · exact z
          rw [if_pos od] at h
          rw [hcl]
          obtain ⟨a, b, e1, e2, a1, a2, b1, b2, e3⟩ := hcell (s / 2) k1
          rw [e1, e2]
          refine ⟨vp_in_nI (by omega) (by decide), k_red (by omega) b1 (by omega) ?_⟩
          rw [e3]; exact h
      · have k1 : ¬ s / 2 < L.length := fun z => c2 ((nI_ltI (by omega) (by omega)).mpr z)
        rw [if_pos (by omega)] at h
        have hm1 : nI L.length - 1 = nI (L.length - 1) := by
          obtain ⟨k, hk⟩ : ∃ k, L.length = k + 1 := ⟨L.length - 1, by omega⟩
          rw [hk]; exact nI_pred k
        rw [hm1, nI_clamp (show L.length - 1 < 2 ^ 31 by omega)]
        obtain ⟨a, b, e1, e2, a1, a2, b1, b2, e3⟩ := hcell (L.length - 1) (by omega)
        rw [e1, e2, jL_add]
        refine ⟨vp_in_nI (by omega) (by decide), k_red (by omega) b1 (by omega) ?_⟩
        rw [fred_more b1 (U := (fg L (L.length - 1)).1) (D := (fg L (L.length - 1)).2) e3]
        exact h
    · have s0 : s = 0 := by
        rcases Nat.eq_zero_or_pos s with z | z
        · exact z
        · exact absurd (nI_lt (a := 0) z (by omega)) c
      rw [if_pos s0] at h
      have hz : (0 : Int32).toNatClampNeg = 0 := by decide
      rw [hz]
      obtain ⟨a, b, e1, e2, a1, a2, b1, b2, e3⟩ := hcell 0 (by omega)
      rw [e1, e2, jL_sub]
      refine k_red (by omega) b1 (by omega) ?_
      rw [fred_less b1 (U := (fg L 0).1) (D := (fg L 0).2) e3]
      exact h
