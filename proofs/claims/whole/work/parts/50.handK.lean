/-! by hand: the Marks' methods over their predicates -/
theorem jcmp {post : Int32 → Prop} {a b : Int} (ha : inL a) (hb : inL b) (h1 : a < b → post (-1)) (h2 : a = b → post 0) (h3 : b < a → post 1) : w_JL_compare post (jL a) (jL b) := by
  unfold w_JL_compare
  refine ⟨fun h => ⟨fun e => h3 ?_, fun e => h2 ((jL_eq ha hb).mp e)⟩, fun h => h1 ?_⟩
  · have h' := (jL_le hb ha).mp h
    have e' : a ≠ b := fun q => e (by rw [q])
    omega
  · have : ¬ b ≤ a := fun q => h ((jL_le hb ha).mpr q)
    omega
theorem cd_exit {post : Int64 → Prop} {a s : Nat} (ha : 0 < a) (ha2 : a < 2 ^ 62) (h : post (jL a)) : w_K_commonDivisor_9 post 1 (jL a) (jL 0) (nI s) := by
  have hp : post (if (1 : Int64) < jL a then jL a else 1) := by
    by_cases c : 1 < a
    · rw [if_pos (by rw [jL_1, jL_lt (by omega) (by omega)]; omega)]; exact h
    · have e : a = 1 := by omega
      subst e
      rw [if_neg (by rw [jL_1, jL_lt (by omega) (by omega)]; omega)]; exact h
  rw [w_K_commonDivisor_9]
  exact ⟨fun _ => hp, fun _ => ⟨fun _ => hp, fun c => absurd rfl c⟩⟩
theorem cd_step {post : Int64 → Prop} {a b s n : Nat} (hb : 0 < b) (ha2 : a < 2 ^ 62) (hb2 : b < 2 ^ 62) (hs : s < 100) (h : w_K_commonDivisor_9 post n (jL b) (jL (a % b : Nat)) (nI (s + 1))) : w_K_commonDivisor_9 post (n + 1) (jL a) (jL b) (nI s) := by
  have hb' : ¬ jL (b : Int) = 0 := by rw [jL_0, jL_eq (by omega) (by omega)]; omega
  rw [w_K_commonDivisor_9]
  refine ⟨fun c => absurd c (nI_ge (a := s) (b := 100) hs (by decide)), fun _ => ⟨fun c => absurd c hb', fun _ => ⟨hb', ?_⟩⟩⟩
  intro y hy
  rw [jL_remN ha2 hb2] at hy
  subst hy
  rw [nI_1]
  exact h
theorem gcd_st (a b : Nat) : Nat.gcd a b = Nat.gcd b (a % b) := by rw [Nat.gcd_comm a b, Nat.gcd_rec b a, Nat.gcd_comm]
theorem cd_all {post : Int64 → Prop} : ∀ (m a b s : Nat), a < 2 ^ 62 → b < 2 ^ m → m ≤ 45 → s + 2 * m < 100 → 0 < Nat.gcd a b → post (jL (Nat.gcd a b : Nat)) → ∃ n, w_K_commonDivisor_9 post n (jL a) (jL b) (nI s)
  | 0, a, b, s, ha, hb, _, _, hg, h => by
    have e : b = 0 := by omega
    subst e
    rw [Nat.gcd_zero_right] at hg h
    exact ⟨1, cd_exit hg ha h⟩
  | m + 1, a, b, s, ha, hb, hm, hs, hg, h => by
    by_cases e : b = 0
    · subst e
      rw [Nat.gcd_zero_right] at hg h
      exact ⟨1, cd_exit hg ha h⟩
    · have hb62 : b < 2 ^ 62 := Nat.lt_of_lt_of_le hb (Nat.pow_le_pow_right (by decide) (by omega))
      have hr : a % b < b := Nat.mod_lt a (by omega)
      rw [gcd_st] at hg h
      by_cases r0 : a % b = 0
      · rw [r0, Nat.gcd_zero_right] at h
        refine ⟨2, cd_step (by omega) ha hb62 (by omega) ?_⟩
        rw [r0]
        exact cd_exit (by omega) hb62 h
      · have hh := gcd_half (a := a) (b := b) (by omega) (by omega)
        rw [gcd_st] at hg h
        have hp : 2 ^ (m + 1) = 2 * 2 ^ m := by rw [Nat.pow_succ]; omega
        obtain ⟨n, hn⟩ := cd_all m (a % b) (b % (a % b)) (s + 2) (by omega) (by omega) (by omega) (by omega) hg h
        exact ⟨n + 2, cd_step (by omega) ha hb62 (by omega) (cd_step (by omega) hb62 (by omega) (by omega) hn)⟩
theorem k_cd {post : Int64 → Prop} {a b : Nat} (ha : a < 2 ^ 62) (hb0 : 0 < b) (hb : b < 2 ^ 45) (h : post (jL (Nat.gcd a b : Nat))) : w_K_commonDivisor post (jL a) (jL b) := by
  unfold w_K_commonDivisor
  exact cd_all 45 a b 0 ha hb (by omega) (by omega) (Nat.gcd_pos_of_pos_right a hb0) h
theorem jabs {u : Int} (hu : inL u) (hu2 : u ≠ -9223372036854775808) : (if 0 < jL u then jL u else - jL u) = jL (u.natAbs : Nat) := by
  by_cases c : 0 < u
  · rw [if_pos (by rw [jL_0, jL_lt (by omega) hu]; exact c)]
    congr 1; omega
  · rw [if_neg (by rw [jL_0, jL_lt (by omega) hu]; exact c), jL_neg]
    congr 1; omega
/-- a part of a fraction: 0 above, else below -/
def fprt (x : Fr) (q : Int32) : Int := if q = 0 then x.1 else x.2
theorem k_red {post : Int64 → Prop} {u d : Int} {q : Int32} (hu : -1000000000000 ≤ u ∧ u ≤ 1000000000000) (hd0 : 0 < d) (hd : d ≤ 1000000000000) (h : post (jL (fprt (fred u d) q))) : w_K_reduced post (jL u) (jL d) q := by
  unfold w_K_reduced
  rw [jabs (by omega) (by omega)]
  obtain ⟨d', rfl⟩ : ∃ d' : Nat, d = d' := ⟨d.toNat, by omega⟩
  refine k_cd (by omega) (by omega) (by omega) ?_
  have hg : (Nat.gcd u.natAbs d' : Nat) = Int.gcd u d' := rfl
  have hp : 0 < Int.gcd u d' := Int.gcd_pos_of_ne_zero_right u (by omega)
  have hle : Int.gcd u d' ≤ d' := by have := Int.gcd_le_natAbs_right u (b := (d' : Int)) (by omega); simpa using this
  rw [hg]
  have hne : ¬ jL ((Int.gcd u d' : Nat) : Int) = 0 := by rw [jL_0, jL_eq (by omega) (by omega)]; omega
  have du := Int.gcd_dvd_left u (d' : Int)
  have dd := Int.gcd_dvd_right u (d' : Int)
  refine ⟨fun c => ⟨hne, ?_⟩, fun c => ⟨hne, ?_⟩⟩
  · rw [jL_div (by omega) (by omega), Int.tdiv_eq_ediv_of_dvd dd]
    unfold fprt fred at h
    rw [if_neg c, if_neg (by omega)] at h
    exact h
  · rw [jL_div (by omega) (by omega), Int.tdiv_eq_ediv_of_dvd du]
    unfold fprt fred at h
    rw [if_pos c, if_neg (by omega)] at h
    exact h
