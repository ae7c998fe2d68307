/-! how many cuts there are: never more than fifteen -/
def inF (x : Fr) (L : List Fr) : Prop := ∃ k, k < L.length ∧ fg L k = x
theorem inF_same {x : Fr} {L : List Fr} (hL : fup L) (h : inF x L) : fins x L = L := by
  obtain ⟨k, hk, e⟩ := h
  have hp : fpos x L = k := fpos_eq (by omega) (fun j hj => by rw [← e]; exact hL.2 j k hj hk) (fun _ => by rw [e]; exact flt_irr x)
  exact fins_in (by rw [hp]; exact hk) (by rw [hp]; exact e)
theorem inF_self (x : Fr) (L : List Fr) : inF x (fins x L) := by
  by_cases c : fpos x L < L.length ∧ fg L (fpos x L) = x
  · rw [fins_in c.1 c.2]; exact ⟨_, c.1, c.2⟩
  · obtain ⟨n1, n2⟩ := fins_new c
    have := fpos_le x L
    exact ⟨fpos x L, by omega, by rw [n2, if_neg (by omega), if_pos rfl]⟩
theorem inF_keep {x y : Fr} {L : List Fr} (h : inF x L) : inF x (fins y L) := by
  by_cases c : fpos y L < L.length ∧ fg L (fpos y L) = y
  · rw [fins_in c.1 c.2]; exact h
  · obtain ⟨n1, n2⟩ := fins_new c
    obtain ⟨k, hk, e⟩ := h
    by_cases q : k < fpos y L
    · exact ⟨k, by omega, by rw [n2, if_pos q]; exact e⟩
    · exact ⟨k + 1, by omega, by rw [n2, if_neg (by omega), if_neg (by omega)]; exact e⟩
/-- lines that can be -/
def lok (n : Nat) (a b c : Nat → Int) : Prop := ∀ i, i < n → (-6 ≤ a i ∧ a i ≤ 6) ∧ (-6 ≤ b i ∧ b i ≤ 6) ∧ (-6 ≤ c i ∧ c i ≤ 6) ∧ ¬ (a i = 0 ∧ b i = 0)
/-- how many of the first lean; how many cuts they can bring -/
def lnN (b : Nat → Int) : Nat → Nat
  | 0 => 0
  | i + 1 => if b i = 0 then lnN b i else lnN b i + 1
def bdN (b : Nat → Int) : Nat → Nat
  | 0 => 0
  | i + 1 => if b i = 0 then bdN b i + 1 else bdN b i + lnN b i
theorem lnN_le (b : Nat → Int) : ∀ i, lnN b i ≤ i
  | 0 => Nat.le_refl 0
  | i + 1 => by
    have := lnN_le b i
    unfold lnN
    split <;> omega
theorem bdN_eq (b : Nat → Int) : ∀ i, 2 * bdN b i + lnN b i = lnN b i * lnN b i + 2 * (i - lnN b i)
  | 0 => rfl
  | i + 1 => by
    have h := bdN_eq b i
    have h2 := lnN_le b i
    unfold lnN bdN
    split
    · omega
    · have e : (lnN b i + 1) * (lnN b i + 1) = lnN b i * lnN b i + 2 * lnN b i + 1 := by grind
      omega
theorem bdN_15 (b : Nat → Int) {n : Nat} (hn : n ≤ 6) : bdN b n ≤ 15 := by
  have h := bdN_eq b n
  have h2 := lnN_le b n
  generalize lnN b n = l at *
  have : l = 0 ∨ l = 1 ∨ l = 2 ∨ l = 3 ∨ l = 4 ∨ l = 5 ∨ l = 6 := by omega
  rcases this with rfl | rfl | rfl | rfl | rfl | rfl | rfl <;> omega
theorem bdN_mono (b : Nat → Int) : ∀ i j, i ≤ j → bdN b i ≤ bdN b j := by
  intro i j h
  induction h with
  | refl => exact Nat.le_refl _
  | step _ ih =>
    refine Nat.le_trans ih ?_
    rename_i m _
    show bdN b m ≤ bdN b (m + 1)
    rw [bdN]
    split <;> omega
theorem lnN_mono (b : Nat → Int) : ∀ i j, i ≤ j → lnN b i ≤ lnN b j := by
  intro i j h
  induction h with
  | refl => exact Nat.le_refl _
  | step _ ih =>
    refine Nat.le_trans ih ?_
    rename_i m _
    show lnN b m ≤ lnN b (m + 1)
    rw [lnN]
    split <;> omega
/-- what stands once the lines 0 .. i - 1 have brought their cuts -/
def cutOk (n : Nat) (a b c : Nat → Int) (i : Nat) (L : List Fr) : Prop := fup L ∧ L.length ≤ bdN b i ∧ ∀ j, j < i → b j = 0 → inF (fred (-(c j)) (a j)) L
/-- the crossing with an upright line is that line's own cut -/
theorem cross_up {a b c : Nat → Int} {i j : Nat} (hb : b i = 0) (hd : ¬ a i * b j - a j * b i = 0) (ha : a i ≠ 0) : fred (b i * c j - b j * c i) (a i * b j - a j * b i) = fred (-(c i)) (a i) := by
  rw [hb] at hd ⊢
  refine fred_eq hd ha ?_
  grind
theorem cross_up' {a b c : Nat → Int} {i j : Nat} (hb : b j = 0) (hd : ¬ a i * b j - a j * b i = 0) (ha : a j ≠ 0) : fred (b i * c j - b j * c i) (a i * b j - a j * b i) = fred (-(c j)) (a j) := by
  rw [hb] at hd ⊢
  refine fred_eq hd ha ?_
  grind
/-- line i upright: its crossings bring nothing new -/
theorem cutJ_up {n : Nat} {a b c : Nat → Int} {i : Nat} {L : List Fr} (hl : lok n a b c) (hi : i < n) (hb : b i = 0) (hL : fup L) (hin : inF (fred (-(c i)) (a i)) L) : ∀ j, cutJ a b c i j L = L
  | 0 => rfl
  | j + 1 => by
    have ih := cutJ_up hl hi hb hL hin j
    have ha : a i ≠ 0 := fun q => (hl i hi).2.2.2 ⟨q, hb⟩
    unfold cutJ
    rw [ih]
    split
    · rfl
    · rename_i hd
      rw [cross_up hb hd ha]
      exact inF_same hL hin
/-- line i leaning: a leaning line before it brings at most one cut, an upright one none -/
theorem cutJ_ln {n : Nat} {a b c : Nat → Int} {i : Nat} {L : List Fr} (hl : lok n a b c) (hi : i < n) (hL : fup L) (hup : ∀ j, j < i → b j = 0 → inF (fred (-(c j)) (a j)) L) : ∀ j, j ≤ i → fup (cutJ a b c i j L) ∧ (cutJ a b c i j L).length ≤ L.length + lnN b j ∧ (∀ x, inF x L → inF x (cutJ a b c i j L))
  | 0, _ => ⟨hL, Nat.le_refl _, fun _ h => h⟩
  | j + 1, hj => by
    obtain ⟨h1, h2, h3⟩ := cutJ_ln hl hi hL hup j (by omega)
    by_cases hd : a i * b j - a j * b i = 0
    · have e : cutJ a b c i (j + 1) L = cutJ a b c i j L := by rw [cutJ, if_pos hd]
      rw [e]
      refine ⟨h1, ?_, h3⟩
      have := lnN_mono b j (j + 1) (by omega)
      omega
    · have e : cutJ a b c i (j + 1) L = fins (fred (b i * c j - b j * c i) (a i * b j - a j * b i)) (cutJ a b c i j L) := by rw [cutJ, if_neg hd]
      rw [e]
      refine ⟨fup_ins (fok_red _ _ hd) h1, ?_, fun x hx => inF_keep (h3 x hx)⟩
      by_cases hb : b j = 0
      · have ha : a j ≠ 0 := fun q => (hl j (by omega)).2.2.2 ⟨q, hb⟩
        rw [cross_up' hb hd ha, inF_same h1 (h3 _ (hup j (by omega) hb))]
        have := lnN_mono b j (j + 1) (by omega)
        omega
      · have := fins_len (fred (b i * c j - b j * c i) (a i * b j - a j * b i)) (cutJ a b c i j L)
        have e2 : lnN b (j + 1) = lnN b j + 1 := by rw [lnN, if_neg hb]
        omega
/-- at most fifteen, at every step -/
theorem cut_room {n : Nat} {a b c : Nat → Int} {i j : Nat} {L : List Fr} (hl : lok n a b c) (hn : n ≤ 6) (hi : i < n) (hj : j < i) (hd : ¬ a i * b j - a j * b i = 0) (hL : fup L) (hup : ∀ j, j < i → b j = 0 → inF (fred (-(c j)) (a j)) L) (hme : b i = 0 → inF (fred (-(c i)) (a i)) L) (hlen : b i ≠ 0 → L.length ≤ bdN b i) : (cutJ a b c i j L).length < 15 ∨ fins (fred (b i * c j - b j * c i) (a i * b j - a j * b i)) (cutJ a b c i j L) = cutJ a b c i j L := by
  by_cases hb : b i = 0
  · right
    have ha : a i ≠ 0 := fun q => (hl i hi).2.2.2 ⟨q, hb⟩
    rw [cutJ_up hl hi hb hL (hme hb), cross_up hb hd ha]
    exact inF_same hL (hme hb)
  · obtain ⟨h1, h2, h3⟩ := cutJ_ln hl hi hL hup j (by omega)
    by_cases hbj : b j = 0
    · right
      have ha : a j ≠ 0 := fun q => (hl j (by omega)).2.2.2 ⟨q, hbj⟩
      rw [cross_up' hbj hd ha]
      exact inF_same h1 (h3 _ (hup j hj hbj))
    · left
      have e1 : bdN b (i + 1) = bdN b i + lnN b i := by rw [bdN, if_neg hb]
      have e2 := bdN_15 b (n := i + 1) (by omega)
      have e3 : lnN b (j + 1) = lnN b j + 1 := by rw [lnN, if_neg hbj]
      have e4 := lnN_mono b (j + 1) i (by omega)
      have e5 := hlen hb
      omega
/-- one line more -/
theorem cut_next {n : Nat} {a b c : Nat → Int} {i : Nat} (hl : lok n a b c) (hi : i < n) (h : cutOk n a b c i (cutI a b c i)) : cutOk n a b c (i + 1) (cutI a b c (i + 1)) := by
  obtain ⟨h1, h2, h3⟩ := h
  have hcases : ∀ (P : Nat → Prop), (∀ j, j < i → P j) → P i → ∀ j, j < i + 1 → P j := fun P p q j hj => by
    rcases Nat.lt_or_ge j i with z | z
    · exact p j z
    · rw [show j = i by omega]; exact q
  unfold cutI
  by_cases hb : b i = 0
  · have ha : a i ≠ 0 := fun q => (hl i hi).2.2.2 ⟨q, hb⟩
    rw [if_pos hb]
    have hL := fup_ins (fok_red (-(c i)) (a i) ha) h1
    rw [cutJ_up hl hi hb hL (inF_self _ _)]
    refine ⟨hL, ?_, hcases _ (fun j hj q => inF_keep (h3 j hj q)) (fun _ => inF_self _ _)⟩
    have := fins_len (fred (-(c i)) (a i)) (cutI a b c i)
    have e : bdN b (i + 1) = bdN b i + 1 := by rw [bdN, if_pos hb]
    omega
  · rw [if_neg hb]
    obtain ⟨g1, g2, g3⟩ := cutJ_ln hl hi h1 h3 i (Nat.le_refl i)
    refine ⟨g1, ?_, hcases _ (fun j hj q => g3 _ (h3 j hj q)) (fun q => absurd q hb)⟩
    have e : bdN b (i + 1) = bdN b i + lnN b i := by rw [bdN, if_neg hb]
    omega
theorem cut_ok {n : Nat} {a b c : Nat → Int} (hl : lok n a b c) : ∀ i, i ≤ n → cutOk n a b c i (cutI a b c i)
  | 0, _ => ⟨fup_nil, Nat.le_refl _, fun j hj => absurd hj (by omega)⟩
  | i + 1, h => cut_next hl (by omega) (cut_ok hl i (by omega))
