theorem nd_l {a : Nat} (h : ¬ a ≤ 0) : nd a (a - 1) = 1 := by simp only [nd]; split <;> omega
theorem nd_r {a : Nat} : nd a (a + 1) = 1 := by simp only [nd]; split <;> omega
/-- what the class weighs: to stay, and the places next to his -/
def nb1 (A : Nat → Bool) (Q : Nat → Nat → Bool) (F : Nat → Nat → Nat) (wk m a : Nat) : Nat := if a ≤ 0 then cN A Q F wk m a a else min (cN A Q F wk m a a) (cN A Q F wk m a (a - 1))
def nb (A : Nat → Bool) (Q : Nat → Nat → Bool) (F : Nat → Nat → Nat) (wk L m a : Nat) : Nat := if L ≤ a + 1 then nb1 A Q F wk m a else min (nb1 A Q F wk m a) (cN A Q F wk m a (a + 1))
theorem nb_eq {A : Nat → Bool} {Q : Nat → Nat → Bool} {wk L m a : Nat} (hw : 1 ≤ wk) (ha : a < L) (hm : m < 240) : nb A Q (fF A Q wk L) wk L m a = fF A Q wk L m a := by
  apply Nat.le_antisymm
  · obtain ⟨t, ht, e⟩ := fF_ex (A := A) (Q := Q) hw ha hm
    rw [← e]
    have st : nb A Q (fF A Q wk L) wk L m a ≤ cN A Q (fF A Q wk L) wk m a a := by
      rw [nb, nb1]; split <;> split <;> omega
    have lf : ¬ a ≤ 0 → nb A Q (fF A Q wk L) wk L m a ≤ cN A Q (fF A Q wk L) wk m a (a - 1) := by
      intro h; rw [nb, nb1, if_neg h]; split <;> omega
    have rt : a + 1 < L → nb A Q (fF A Q wk L) wk L m a ≤ cN A Q (fF A Q wk L) wk m a (a + 1) := by
      intro h; rw [nb, if_neg (by omega)]; omega
    rcases Nat.lt_trichotomy t a with q | q | q
    · by_cases c : t = a - 1
      · rw [c]; exact lf (by omega)
      · refine Nat.le_trans (lf (by omega)) ?_
        rw [cN, if_neg (by omega), cN, if_neg (by omega)]
        exact far hw (by omega) ht hm (nd_l (by omega)) (by simp only [nd]; split <;> split <;> omega) (by omega)
    · rw [q]; exact st
    · by_cases c : t = a + 1
      · rw [c]; exact rt (by omega)
      · refine Nat.le_trans (rt (by omega)) ?_
        rw [cN, if_neg (by omega), cN, if_neg (by omega)]
        exact far hw (by omega) ht hm nd_r (by simp only [nd]; split <;> split <;> omega) (by omega)
  · have le : ∀ t, t < L → fF A Q wk L m a ≤ cN A Q (fF A Q wk L) wk m a t := by
      intro t ht
      rw [fF_rec hw hm]
      exact mN_le L ht
    have l1 := le a ha
    rw [nb, nb1]
    split <;> split
    · exact l1
    · have := le (a - 1) (by omega); omega
    · have := le (a + 1) (by omega); omega
    · have := le (a + 1) (by omega); have := le (a - 1) (by omega); omega
/-! the class's rows -/
theorem kArr_N {A : Nat → Bool} {F : Nat → Nat → Nat} {ar fw : Nat → Int32} {m g t : Nat} (hm : m ≤ 240) (h1 : ar m = nI (wN A m (240 - m))) (h2 : ar (min 240 (m + g)) = nI (wN A (min 240 (m + g)) (240 - min 240 (m + g)))) (h3 : fw (min 240 (m + g) * 6 + t) = nI (F (min 240 (m + g)) t)) : kArr ar fw m g t = nI (gN A F m g t) := by
  rw [kArr, h1, h2, h3, gN]
  have s := wN_add (A := A) (m := m) (x := min 240 (m + g) - m) (240 - min 240 (m + g))
  rw [show min 240 (m + g) - m + (240 - min 240 (m + g)) = 240 - m by omega, show m + (min 240 (m + g) - m) = min 240 (m + g) by omega] at s
  rw [pk_sub (by omega), nI_add]
  congr 1
  omega
theorem kTolls_N {A : Nat → Bool} {Q : Nat → Nat → Bool} {F : Nat → Nat → Nat} {du ar fw : Nat → Int32} {wk L m a t : Nat} (hw : 1 ≤ wk) (hm : m < 240) (ha : a < L) (ht : t < L) (hd : kRg (du m) a = if Q m a = true then 1 else 0) (h1 : ∀ m', m ≤ m' → m' ≤ 240 → ar m' = nI (wN A m' (240 - m'))) (h3 : ∀ m' b, m < m' → m' ≤ 240 → b < L → fw (m' * 6 + b) = nI (F m' b)) : kTolls du ar fw wk m a t = nI (cN A Q F wk m a t) := by
  rw [kTolls, cN]
  by_cases c : a = t
  · rw [if_pos c, if_pos c, hd, h3 (m + 1) a (by omega) (by omega) ha]
    split
    · exact nI_add 1 _
    · rw [Int32.zero_add, Nat.zero_add]
  · rw [if_neg c, if_neg c]
    have : 1 ≤ wk * nd a t := Nat.mul_le_mul hw (nd_pos c)
    exact kArr_N (by omega) (h1 m (by omega) (by omega)) (h1 _ (by omega) (by omega)) (h3 _ t (by omega) (by omega) ht)
theorem kLess_N {x y : Nat} (hx : x ≤ 1000) (hy : y ≤ 1000) : kLess (nI x) (nI y) = nI (min x y) := by
  rw [kLess]
  split
  · rename_i c
    rw [nI_ltI (by omega) (by omega)] at c
    rw [Nat.min_eq_right (by omega)]
  · rename_i c
    rw [nI_ltI (by omega) (by omega)] at c
    rw [Nat.min_eq_left (by omega)]
theorem kFF_N {A : Nat → Bool} {Q : Nat → Nat → Bool} {du ar fw : Nat → Int32} {wk L m a : Nat} (hw : 1 ≤ wk) (hm : m < 240) (ha : a < L) (hd : kRg (du m) a = if Q m a = true then 1 else 0) (h1 : ∀ m', m ≤ m' → m' ≤ 240 → ar m' = nI (wN A m' (240 - m'))) (h3 : ∀ m' b, m < m' → m' ≤ 240 → b < L → fw (m' * 6 + b) = nI (fF A Q wk L m' b)) : kFF du ar fw wk L m a = nI (fF A Q wk L m a) := by
  have T : ∀ t, t < L → kTolls du ar fw wk m a t = nI (cN A Q (fF A Q wk L) wk m a t) := fun t ht => kTolls_N hw hm ha ht hd h1 h3
  have B : ∀ t, t < L → cN A Q (fF A Q wk L) wk m a t ≤ 1000 := fun t ht => by have := cN_le (A := A) (Q := Q) hw ha ht hm; omega
  have e1 : kFF1 du ar fw wk m a = nI (nb1 A Q (fF A Q wk L) wk m a) ∧ nb1 A Q (fF A Q wk L) wk m a ≤ 1000 := by
    rw [kFF1, nb1]
    have b0 := B a ha
    split
    · exact ⟨T a ha, b0⟩
    · have b1 := B (a - 1) (by omega)
      rw [T a ha, T (a - 1) (by omega), kLess_N b0 b1]
      exact ⟨rfl, by omega⟩
  rw [← nb_eq hw ha hm, kFF, nb]
  split
  · exact e1.1
  · rw [e1.1, T (a + 1) (by omega), kLess_N e1.2 (B (a + 1) (by omega))]
