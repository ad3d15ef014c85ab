/-! ===== the fewest tolls ===== -/
def wN (A : Nat → Bool) (m : Nat) : Nat → Nat
  | 0 => 0
  | k + 1 => wN A m k + (if A (m + k) = true then 1 else 0)
theorem wN_le {A : Nat → Bool} {m : Nat} : ∀ n, wN A m n ≤ n
  | 0 => Nat.le_refl _
  | n + 1 => by rw [wN]; have := wN_le (A := A) (m := m) n; split <;> omega
theorem wN_add {A : Nat → Bool} {m x : Nat} : ∀ y, wN A m (x + y) = wN A m x + wN A (m + x) y
  | 0 => rfl
  | y + 1 => by
    rw [show x + (y + 1) = (x + y) + 1 from rfl, wN, wN, wN_add y, Nat.add_assoc m x y, Nat.add_assoc]
theorem rWay_wN {A : Nat → Bool} {m : Nat} : ∀ n, rWay A m n = nI (wN A m n)
  | 0 => rfl
  | n + 1 => by
    rw [rWay, wN, rWay_wN n]
    split
    · exact nI_1 _
    · exact Int32.add_zero _
/-- a way of w minutes from m on to t, and from there on -/
def gN (A : Nat → Bool) (F : Nat → Nat → Nat) (m w t : Nat) : Nat := wN A m (min 240 (m + w) - m) + F (min 240 (m + w)) t
def cN (A : Nat → Bool) (Q : Nat → Nat → Bool) (F : Nat → Nat → Nat) (wk m a t : Nat) : Nat := if a = t then (if Q m a = true then 1 else 0) + F (m + 1) a else gN A F m (wk * nd a t) t
def mN (A : Nat → Bool) (Q : Nat → Nat → Bool) (F : Nat → Nat → Nat) (wk m a : Nat) : Nat → Nat
  | 0 => 1000000
  | t + 1 => min (mN A Q F wk m a t) (cN A Q F wk m a t)
def fT (A : Nat → Bool) (Q : Nat → Nat → Bool) (wk L : Nat) : Nat → Nat → Nat → Nat
  | 0 => fun _ _ => 0
  | j + 1 => fun m a => if m = 239 - j then mN A Q (fT A Q wk L j) wk m a L else fT A Q wk L j m a
theorem fT_s {A : Nat → Bool} {Q : Nat → Nat → Bool} {wk L j m a : Nat} : fT A Q wk L (j + 1) m a = if m = 239 - j then mN A Q (fT A Q wk L j) wk m a L else fT A Q wk L j m a := rfl
theorem nd_pos {a t : Nat} (h : ¬ a = t) : 1 ≤ nd a t := by simp only [nd]; split <;> omega
theorem cN_cg {A : Nat → Bool} {Q : Nat → Nat → Bool} {F G : Nat → Nat → Nat} {wk m a t : Nat} (hw : 1 ≤ wk) (hm : m < 240) (h : ∀ m' b, m < m' → F m' b = G m' b) : cN A Q F wk m a t = cN A Q G wk m a t := by
  rw [cN, cN]
  by_cases c : a = t
  · rw [if_pos c, if_pos c, h (m + 1) a (by omega)]
  · rw [if_neg c, if_neg c, gN, gN]
    have : 1 ≤ wk * nd a t := Nat.mul_le_mul hw (nd_pos c)
    rw [h _ t (by omega)]
theorem mN_cg {A : Nat → Bool} {Q : Nat → Nat → Bool} {F G : Nat → Nat → Nat} {wk m a : Nat} (hw : 1 ≤ wk) (hm : m < 240) (h : ∀ m' b, m < m' → F m' b = G m' b) : ∀ L, mN A Q F wk m a L = mN A Q G wk m a L
  | 0 => rfl
  | L + 1 => by rw [mN, mN, mN_cg hw hm h L, cN_cg hw hm h]
theorem fT_hi {A : Nat → Bool} {Q : Nat → Nat → Bool} {wk L m a : Nat} (hm : 240 ≤ m) : ∀ j, fT A Q wk L j m a = 0
  | 0 => rfl
  | j + 1 => by rw [fT_s, if_neg (by omega), fT_hi hm j]
theorem fT_up {A : Nat → Bool} {Q : Nat → Nat → Bool} {wk L m a j : Nat} (hm : 240 ≤ m + j) : ∀ i, j + i ≤ 240 → fT A Q wk L (j + i) m a = fT A Q wk L j m a
  | 0, _ => rfl
  | i + 1, h => by rw [show j + (i + 1) = (j + i) + 1 from rfl, fT_s, if_neg (by omega), fT_up hm i (by omega)]
theorem fT_240 {A : Nat → Bool} {Q : Nat → Nat → Bool} {wk L m a j : Nat} (hj : j ≤ 240) (hm : 240 ≤ m + j) : fT A Q wk L 240 m a = fT A Q wk L j m a := by
  have := fT_up (A := A) (Q := Q) (wk := wk) (L := L) (m := m) (a := a) (j := j) hm (240 - j) (by omega)
  rw [show j + (240 - j) = 240 by omega] at this
  exact this
abbrev fF (A : Nat → Bool) (Q : Nat → Nat → Bool) (wk L : Nat) : Nat → Nat → Nat := fT A Q wk L 240
theorem fF_240 {A : Nat → Bool} {Q : Nat → Nat → Bool} {wk L m a : Nat} (hm : 240 ≤ m) : fF A Q wk L m a = 0 := fT_hi hm 240
theorem fF_rec {A : Nat → Bool} {Q : Nat → Nat → Bool} {wk L m a : Nat} (hw : 1 ≤ wk) (hm : m < 240) : fF A Q wk L m a = mN A Q (fF A Q wk L) wk m a L := by
  rw [fF, fT_240 (j := 239 - m + 1) (by omega) (by omega), fT_s, if_pos (by omega)]
  refine mN_cg hw hm (fun m' b h => ?_) L
  exact (fT_240 (by omega) (by omega)).symm
theorem mN_le {A : Nat → Bool} {Q : Nat → Nat → Bool} {F : Nat → Nat → Nat} {wk m a t : Nat} : ∀ L, t < L → mN A Q F wk m a L ≤ cN A Q F wk m a t
  | L + 1, h => by
    rw [mN]
    rcases Nat.lt_or_ge t L with q | q
    · have := mN_le (A := A) (Q := Q) (F := F) (wk := wk) (m := m) (a := a) L q
      omega
    · rw [show t = L by omega]; omega
theorem mN_is {A : Nat → Bool} {Q : Nat → Nat → Bool} {F : Nat → Nat → Nat} {wk m a : Nat} : ∀ L, mN A Q F wk m a L = 1000000 ∨ ∃ t, t < L ∧ mN A Q F wk m a L = cN A Q F wk m a t
  | 0 => Or.inl rfl
  | L + 1 => by
    rw [mN]
    rcases Nat.lt_or_ge (cN A Q F wk m a L) (mN A Q F wk m a L) with q | q
    · exact Or.inr ⟨L, by omega, by omega⟩
    · rw [Nat.min_eq_left q]
      rcases mN_is (A := A) (Q := Q) (F := F) (wk := wk) (m := m) (a := a) L with r | ⟨t, r1, r2⟩
      · exact Or.inl r
      · exact Or.inr ⟨t, by omega, r2⟩
theorem fF_le {A : Nat → Bool} {Q : Nat → Nat → Bool} {wk L a : Nat} (hw : 1 ≤ wk) (ha : a < L) : ∀ n m, 240 - m = n → fF A Q wk L m a ≤ 240 - m
  | 0, m, h => by rw [fF_240 (by omega)]; omega
  | n + 1, m, h => by
    have ih := fF_le hw ha (A := A) (Q := Q) n (m + 1) (by omega)
    rw [fF_rec hw (by omega)]
    have := mN_le (A := A) (Q := Q) (F := fF A Q wk L) (wk := wk) (m := m) (a := a) (t := a) L ha
    rw [cN, if_pos rfl] at this
    split at this <;> omega
theorem cN_le {A : Nat → Bool} {Q : Nat → Nat → Bool} {wk L m a t : Nat} (hw : 1 ≤ wk) (ha : a < L) (ht : t < L) (hm : m < 240) : cN A Q (fF A Q wk L) wk m a t ≤ 240 - m := by
  rw [cN]
  split
  · have := fF_le hw ha (A := A) (Q := Q) _ (m + 1) rfl
    split <;> omega
  · rw [gN]
    have h1 := fF_le hw ht (A := A) (Q := Q) _ (min 240 (m + wk * nd a t)) rfl
    have h2 := wN_le (A := A) (m := m) (min 240 (m + wk * nd a t) - m)
    omega
/-- the least is met by some place -/
theorem fF_ex {A : Nat → Bool} {Q : Nat → Nat → Bool} {wk L m a : Nat} (hw : 1 ≤ wk) (ha : a < L) (hm : m < 240) : ∃ t, t < L ∧ cN A Q (fF A Q wk L) wk m a t = fF A Q wk L m a := by
  rw [fF_rec hw hm]
  rcases mN_is (A := A) (Q := Q) (F := fF A Q wk L) (wk := wk) (m := m) (a := a) L with r | ⟨t, r1, r2⟩
  · have := fF_le hw ha (A := A) (Q := Q) _ m rfl
    rw [fF_rec hw hm, r] at this
    omega
  · exact ⟨t, r1, r2.symm⟩
/-- a far way: first to the next place, then on -/
theorem far {A : Nat → Bool} {Q : Nat → Nat → Bool} {wk L m a b t : Nat} (hw : 1 ≤ wk) (hb : b < L) (ht : t < L) (hm : m < 240) (h1 : nd a b = 1) (h2 : nd a t = 1 + nd b t) (h3 : ¬ b = t) : gN A (fF A Q wk L) m (wk * nd a b) b ≤ gN A (fF A Q wk L) m (wk * nd a t) t := by
  have e : wk * nd a t = wk + wk * nd b t := by rw [h2, Nat.mul_add, Nat.mul_one]
  rw [h1, Nat.mul_one, e, gN, gN]
  rcases Nat.lt_or_ge (m + wk) 240 with q | q
  · rw [Nat.min_eq_right (show m + wk ≤ 240 by omega)]
    have l := mN_le (A := A) (Q := Q) (F := fF A Q wk L) (wk := wk) (m := m + wk) (a := b) (t := t) L ht
    rw [← fF_rec hw q, cN, if_neg h3, gN] at l
    have s := wN_add (A := A) (m := m) (x := wk) (min 240 (m + wk + wk * nd b t) - (m + wk))
    rw [← Nat.add_assoc m wk, show min 240 (m + wk + wk * nd b t) - m = wk + (min 240 (m + wk + wk * nd b t) - (m + wk)) by omega, s, show m + wk - m = wk by omega]
    omega
  · rw [Nat.min_eq_left (show 240 ≤ m + wk by omega), Nat.min_eq_left (show 240 ≤ m + (wk + wk * nd b t) by omega), fF_240 (Nat.le_refl _), fF_240 (Nat.le_refl _)]
    exact Nat.le_refl _
