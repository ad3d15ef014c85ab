/-! the reference's rows -/
theorem rOnW_N {A : Nat → Bool} {F : Nat → Nat → Nat} {co : Nat → Int32} {m w t : Nat} (hm : m ≤ 240) (h0 : F 240 t = 0) (h3 : m + w < 240 → co (6 * (m + w) + t) = nI (F (m + w) t)) : rOnW A co m w t = nI (gN A F m w t) := by
  rw [rOnW, gN]
  split
  · rename_i c
    rw [rWay_wN, h3 c, nI_add, Nat.min_eq_right (by omega), show m + w - m = w by omega]
  · rw [rWay_wN, Nat.min_eq_left (by omega), h0, Nat.add_zero]
theorem rCost_N {A : Nat → Bool} {Q : Nat → Nat → Bool} {F : Nat → Nat → Nat} {co : Nat → Int32} {wk L m a t : Nat} (hw : 1 ≤ wk) (hm : m < 240) (ha : a < L) (ht : t < L) (h0 : ∀ b, F 240 b = 0) (h3 : ∀ m' b, m < m' → m' ≤ 240 → b < L → co (6 * m' + b) = nI (F m' b)) : rCost A Q co wk m a t = nI (cN A Q F wk m a t) := by
  rw [rCost, cN]
  by_cases c : a = t
  · rw [if_pos c, if_pos c, h3 (m + 1) a (by omega) (by omega) ha]
    split
    · exact nI_add 1 _
    · rw [Int32.zero_add, Nat.zero_add]
  · rw [if_neg c, if_neg c]
    have : 1 ≤ wk * nd a t := Nat.mul_le_mul hw (nd_pos c)
    exact rOnW_N (by omega) (h0 t) (fun q => h3 _ t (by omega) (by omega) ht)
theorem mN_b {A : Nat → Bool} {Q : Nat → Nat → Bool} {F : Nat → Nat → Nat} {wk m a : Nat} : ∀ L, mN A Q F wk m a L ≤ 1000000
  | 0 => Nat.le_refl _
  | L + 1 => by rw [mN]; have := mN_b (A := A) (Q := Q) (F := F) (wk := wk) (m := m) (a := a) L; omega
theorem rBest_N {A : Nat → Bool} {Q : Nat → Nat → Bool} {F : Nat → Nat → Nat} {co : Nat → Int32} {wk m a : Nat} : ∀ n, (∀ t, t < n → rCost A Q co wk m a t = nI (cN A Q F wk m a t) ∧ cN A Q F wk m a t ≤ 1000) → rBest A Q co wk m a n = nI (mN A Q F wk m a n)
  | 0, _ => rfl
  | n + 1, h => by
    have ih := rBest_N (A := A) (Q := Q) (F := F) (co := co) (wk := wk) (m := m) (a := a) n (fun t ht => h t (by omega))
    obtain ⟨x, y⟩ := h n (by omega)
    have b := mN_b (A := A) (Q := Q) (F := F) (wk := wk) (m := m) (a := a) n
    rw [rBest, mN, ih, x]
    split
    · rename_i c
      rw [nI_leI (by omega) (by omega)] at c
      rw [Nat.min_eq_left (by omega)]
    · rename_i c
      rw [nI_leI (by omega) (by omega)] at c
      rw [Nat.min_eq_right (by omega)]
theorem rRow_spec {A : Nat → Bool} {Q : Nat → Nat → Bool} {F : Nat → Nat → Nat} {co : Nat → Int32} {wk L m : Nat} (hL : L ≤ 6) (hF : ∀ T : Nat → Int32, (∀ m' b, m < m' → m' ≤ 240 → b < L → T (6 * m' + b) = co (6 * m' + b)) → ∀ a, a < L → rBest A Q T wk m a L = nI (F m a)) : ∀ a, a ≤ L → (∀ b, b < a → rRow A Q wk L m co a (6 * m + b) = nI (F m b)) ∧ (∀ m' b, m' ≠ m → b < L → rRow A Q wk L m co a (6 * m' + b) = co (6 * m' + b))
  | 0, _ => ⟨fun b hb => by omega, fun _ _ _ _ => rfl⟩
  | a + 1, h => by
    obtain ⟨y, z⟩ := rRow_spec hL hF a (by omega)
    have e := hF (rRow A Q wk L m co a) (fun m' b h1 _ hb => z m' b (by omega) hb) a (by omega)
    rw [rRow, e]
    refine ⟨fun b hb => ?_, fun m' b hm hb => ?_⟩
    · by_cases q : b = a
      · subst q; exact pk_us
      · rw [pk_un (by omega)]; exact y b (by omega)
    · rw [pk_un (by omega)]; exact z m' b hm hb
theorem rZ_at {co : Nat → Int32} {b : Nat} : ∀ k, b < k → rZ co k (1440 + b) = 0
  | k + 1, h => by
    rw [rZ]
    by_cases q : b = k
    · subst q; exact pk_us
    · rw [pk_un (by omega)]; exact rZ_at k (by omega)
theorem rMeas_inv {A : Nat → Bool} {Q : Nat → Nat → Bool} {co : Nat → Int32} {wk L : Nat} (hw : 1 ≤ wk) (hL : L ≤ 6) : ∀ j, j ≤ 240 → ∀ m b, 240 ≤ m + j → m ≤ 240 → b < L → rMeas A Q wk L co j (6 * m + b) = nI (fF A Q wk L m b)
  | 0, _, m, b, h1, h2, hb => by
    have : m = 240 := by omega
    subst this
    rw [rMeas, fF_240 (Nat.le_refl _), show 6 * 240 + b = 1440 + b from rfl, rZ_at 6 (by omega)]
    rfl
  | j + 1, hj, m, b, h1, h2, hb => by
    have ih := rMeas_inv (A := A) (Q := Q) (co := co) hw hL j (by omega)
    have hm : 239 - j < 240 := by omega
    rw [rMeas]
    generalize rMeas A Q wk L co j = S at ih
    obtain ⟨x, y⟩ := rRow_spec (A := A) (Q := Q) (F := fF A Q wk L) (co := S) (wk := wk) (L := L) (m := 239 - j) hL (by
      intro T t a ha
      rw [fF_rec hw hm]
      refine rBest_N L (fun t' ht' => ⟨?_, ?_⟩)
      · exact rCost_N hw hm ha ht' (fun b => fF_240 (Nat.le_refl _)) (fun m' b h1 h2 hb => by rw [t m' b h1 h2 hb]; exact ih m' b (by omega) h2 hb)
      · have := cN_le (A := A) (Q := Q) hw ha ht' hm; omega) L (Nat.le_refl _)
    by_cases c : m = 239 - j
    · rw [c]; exact x b hb
    · rw [y m b c hb]; exact ih m b (by omega) h2 hb
